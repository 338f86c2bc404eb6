theorem dX10_lawful_0 : decode cX10_lawful 0 = .ok (.iload 5, 2) := by decide +kernel
theorem dX10_lawful_2 : decode cX10_lawful 2 = .ok (.iconst 0, 1) := by decide +kernel
theorem dX10_lawful_3 : decode cX10_lawful 3 = .ok (.bipush 6, 2) := by decide +kernel
theorem dX10_lawful_5 : decode cX10_lawful 5 = .ok (.invokestatic 115, 3) := by decide +kernel
theorem dX10_lawful_8 : decode cX10_lawful 8 = .ok (.ifCond .eq 22, 3) := by decide +kernel
theorem dX10_lawful_11 : decode cX10_lawful 11 = .ok (.aload_n 0, 1) := by decide +kernel
theorem dX10_lawful_12 : decode cX10_lawful 12 = .ok (.iload_n 3, 1) := by decide +kernel
theorem dX10_lawful_13 : decode cX10_lawful 13 = .ok (.iload 4, 2) := by decide +kernel
theorem dX10_lawful_15 : decode cX10_lawful 15 = .ok (.invokevirtual 276, 3) := by decide +kernel
theorem dX10_lawful_18 : decode cX10_lawful 18 = .ok (.ifCond .eq 12, 3) := by decide +kernel
theorem dX10_lawful_21 : decode cX10_lawful 21 = .ok (.aload_n 0, 1) := by decide +kernel
theorem dX10_lawful_22 : decode cX10_lawful 22 = .ok (.iload_n 1, 1) := by decide +kernel
theorem dX10_lawful_23 : decode cX10_lawful 23 = .ok (.iload_n 2, 1) := by decide +kernel
theorem dX10_lawful_24 : decode cX10_lawful 24 = .ok (.invokevirtual 227, 3) := by decide +kernel
theorem dX10_lawful_27 : decode cX10_lawful 27 = .ok (.ifCond .ne 6, 3) := by decide +kernel
theorem dX10_lawful_30 : decode cX10_lawful 30 = .ok (.bipush (-2), 2) := by decide +kernel
theorem dX10_lawful_32 : decode cX10_lawful 32 = .ok (.ireturn, 1) := by decide +kernel
theorem dX10_lawful_33 : decode cX10_lawful 33 = .ok (.iconst 1, 1) := by decide +kernel
theorem dX10_lawful_34 : decode cX10_lawful 34 = .ok (.iload_n 2, 1) := by decide +kernel
theorem dX10_lawful_35 : decode cX10_lawful 35 = .ok (.invokestatic 169, 3) := by decide +kernel
theorem dX10_lawful_38 : decode cX10_lawful 38 = .ok (.istore 6, 2) := by decide +kernel
theorem dX10_lawful_40 : decode cX10_lawful 40 = .ok (.iconst 0, 1) := by decide +kernel
theorem dX10_lawful_41 : decode cX10_lawful 41 = .ok (.istore 7, 2) := by decide +kernel
theorem dX10_lawful_43 : decode cX10_lawful 43 = .ok (.iload 7, 2) := by decide +kernel
theorem dX10_lawful_45 : decode cX10_lawful 45 = .ok (.aload_n 0, 1) := by decide +kernel
theorem dX10_lawful_46 : decode cX10_lawful 46 = .ok (.getfield 205, 3) := by decide +kernel
theorem dX10_lawful_49 : decode cX10_lawful 49 = .ok (.if_icmp .ge 72, 3) := by decide +kernel
theorem dX10_lawful_52 : decode cX10_lawful 52 = .ok (.iload 6, 2) := by decide +kernel
theorem dX10_lawful_54 : decode cX10_lawful 54 = .ok (.iconst 1, 1) := by decide +kernel
theorem dX10_lawful_55 : decode cX10_lawful 55 = .ok (.iadd, 1) := by decide +kernel
theorem dX10_lawful_56 : decode cX10_lawful 56 = .ok (.iconst 3, 1) := by decide +kernel
theorem dX10_lawful_57 : decode cX10_lawful 57 = .ok (.iload 7, 2) := by decide +kernel
theorem dX10_lawful_59 : decode cX10_lawful 59 = .ok (.imul, 1) := by decide +kernel
theorem dX10_lawful_60 : decode cX10_lawful 60 = .ok (.iadd, 1) := by decide +kernel
theorem dX10_lawful_61 : decode cX10_lawful 61 = .ok (.istore 8, 2) := by decide +kernel
theorem dX10_lawful_63 : decode cX10_lawful 63 = .ok (.aload_n 0, 1) := by decide +kernel
theorem dX10_lawful_64 : decode cX10_lawful 64 = .ok (.getfield 7, 3) := by decide +kernel
theorem dX10_lawful_67 : decode cX10_lawful 67 = .ok (.iload 8, 2) := by decide +kernel
theorem dX10_lawful_69 : decode cX10_lawful 69 = .ok (.iconst 1, 1) := by decide +kernel
theorem dX10_lawful_70 : decode cX10_lawful 70 = .ok (.iadd, 1) := by decide +kernel
theorem dX10_lawful_71 : decode cX10_lawful 71 = .ok (.iaload, 1) := by decide +kernel
theorem dX10_lawful_72 : decode cX10_lawful 72 = .ok (.istore 9, 2) := by decide +kernel
theorem dX10_lawful_74 : decode cX10_lawful 74 = .ok (.iload 9, 2) := by decide +kernel
theorem dX10_lawful_76 : decode cX10_lawful 76 = .ok (.aload_n 0, 1) := by decide +kernel
theorem dX10_lawful_77 : decode cX10_lawful 77 = .ok (.getfield 7, 3) := by decide +kernel
theorem dX10_lawful_80 : decode cX10_lawful 80 = .ok (.iload 8, 2) := by decide +kernel
theorem dX10_lawful_82 : decode cX10_lawful 82 = .ok (.iconst 2, 1) := by decide +kernel
theorem dX10_lawful_83 : decode cX10_lawful 83 = .ok (.iadd, 1) := by decide +kernel
theorem dX10_lawful_84 : decode cX10_lawful 84 = .ok (.iaload, 1) := by decide +kernel
theorem dX10_lawful_85 : decode cX10_lawful 85 = .ok (.if_icmp .ge 30, 3) := by decide +kernel
theorem dX10_lawful_88 : decode cX10_lawful 88 = .ok (.aload_n 0, 1) := by decide +kernel
theorem dX10_lawful_89 : decode cX10_lawful 89 = .ok (.aload_n 0, 1) := by decide +kernel
theorem dX10_lawful_90 : decode cX10_lawful 90 = .ok (.getfield 7, 3) := by decide +kernel
theorem dX10_lawful_93 : decode cX10_lawful 93 = .ok (.iload 8, 2) := by decide +kernel
theorem dX10_lawful_95 : decode cX10_lawful 95 = .ok (.iaload, 1) := by decide +kernel
theorem dX10_lawful_96 : decode cX10_lawful 96 = .ok (.iload 5, 2) := by decide +kernel
theorem dX10_lawful_98 : decode cX10_lawful 98 = .ok (.iload 9, 2) := by decide +kernel
theorem dX10_lawful_100 : decode cX10_lawful 100 = .ok (.invokevirtual 279, 3) := by decide +kernel
theorem dX10_lawful_103 : decode cX10_lawful 103 = .ok (.ifCond .ne 6, 3) := by decide +kernel
theorem dX10_lawful_106 : decode cX10_lawful 106 = .ok (.iload 7, 2) := by decide +kernel
theorem dX10_lawful_108 : decode cX10_lawful 108 = .ok (.ireturn, 1) := by decide +kernel
theorem dX10_lawful_109 : decode cX10_lawful 109 = .ok (.iinc 9 1, 3) := by decide +kernel
theorem dX10_lawful_112 : decode cX10_lawful 112 = .ok (.goto (-38), 3) := by decide +kernel
theorem dX10_lawful_115 : decode cX10_lawful 115 = .ok (.iinc 7 1, 3) := by decide +kernel
theorem dX10_lawful_118 : decode cX10_lawful 118 = .ok (.goto (-75), 3) := by decide +kernel
theorem dX10_lawful_121 : decode cX10_lawful 121 = .ok (.iconst (-1), 1) := by decide +kernel
theorem dX10_lawful_122 : decode cX10_lawful 122 = .ok (.ireturn, 1) := by decide +kernel
def zX10_lawful (Qr : Option PV → Mem → Prop) : XZ := (RX10, 6, 134, 10, some FieldType.int, Qr)
noncomputable def fX10_lawful_b74 (k43 : Nat → Int → Int → Int → Mem → Option (Int × Mem)) : Nat → Nat → Int → Int → Int → Int → Int → Mem → Option (Int × Mem)
  | 0, _, _, _, _, _, _, _ => none
  | n + 1, o, x5, x6, x7, x8, x9, F =>
    if (0 : Int) ≤ (xw (x8 + 2)) ∧ (xw (x8 + 2)) < (alen (o + 1) : Int) then
      if (F (o + 1) (xw (x8 + 2)).toNat) ≤ x9 then
        k43 o x5 x6 (xw (x7 + 1)) F
      else
        if (0 : Int) ≤ x8 ∧ x8 < (alen (o + 1) : Int) then
          (fX10_may o (F (o + 1) x8.toNat) x5 x9 F).bind fun r4 =>
          if r4 ≠ 0 then
            fX10_lawful_b74 k43 n o x5 x6 x7 x8 (xw (x9 + 1)) F
          else
            some (x7, F)
        else none
    else none
noncomputable def fX10_lawful_b43 : Nat → Nat → Int → Int → Int → Mem → Option (Int × Mem)
  | 0, _, _, _, _, _ => none
  | n + 1, o, x5, x6, x7, F =>
    if (F o 15) ≤ x7 then
      some ((-1), F)
    else
      if (0 : Int) ≤ (xw ((xw ((xw (x6 + 1)) + (xw (3 * x7)))) + 1)) ∧ (xw ((xw ((xw (x6 + 1)) + (xw (3 * x7)))) + 1)) < (alen (o + 1) : Int) then
        fX10_lawful_b74 (fX10_lawful_b43 n) FU o x5 x6 x7 (xw ((xw (x6 + 1)) + (xw (3 * x7)))) (F (o + 1) (xw ((xw ((xw (x6 + 1)) + (xw (3 * x7)))) + 1)).toNat) F
      else none
noncomputable def fX10_lawful (o : Nat) (x1 : Int) (x2 : Int) (x3 : Int) (x4 : Int) (x5 : Int) (F : Mem) : Option (Int × Mem) :=
  if (fX10_isIn x5 0 6) = 0 then
    some ((-2), F)
  else
    (fX10_isState o x3 x4 F).bind fun q2 =>
    if q2.1 = 0 then
      some ((-2), q2.2)
    else
      (fX10_isRound o x1 x2 q2.2).bind fun q5 =>
      if q5.1 ≠ 0 then
        fX10_lawful_b43 FU o x5 (fX10_placeOf 1 x2) 0 q5.2
      else
        some ((-2), q5.2)
theorem fX10_lawful_b74_ok {Qr : Option PV → Mem → Prop}  (k43 : Nat → Int → Int → Int → Mem → Option (Int × Mem)) (hk43 : ∀ (o : Nat) (x5 : Int) (x6 : Int) (x7 : Int) (F : Mem) (res : (Int × Mem)) (ho : isK o 10), k43 o x5 x6 x7 F = some res → Qr (some (vI res.1)) res.2 → PR cX10_lawful (zX10_lawful Qr) 43 [(0, vR o), (5, vI x5), (6, vI x6), (7, vI x7)] [] F) : ∀ (n : Nat) (o : Nat) (x5 : Int) (x6 : Int) (x7 : Int) (x8 : Int) (x9 : Int) (F : Mem) (res : (Int × Mem)) (ho : isK o 10), fX10_lawful_b74 k43 n o x5 x6 x7 x8 x9 F = some res → Qr (some (vI res.1)) res.2 → PR cX10_lawful (zX10_lawful Qr) 74 [(0, vR o), (5, vI x5), (6, vI x6), (7, vI x7), (8, vI x8), (9, vI x9)] [] F := by
  intro n
  induction n with
  | zero => intro o x5 x6 x7 x8 x9 F res ho h hq; exact nomatch (show (none : Option _) = some _ from h)
  | succ n ih =>
    intro o x5 x6 x7 x8 x9 F res ho h hq
    refine s_iload (j := 5) dX10_lawful_74 rfl ?_
    refine s_aload_n (j := 0) dX10_lawful_76 rfl rfl ?_
    refine s_getR dX10_lawful_77 flX10_7 ho ?_
    refine s_iload (j := 4) dX10_lawful_80 rfl ?_
    refine s_iconst dX10_lawful_82 (cin rfl) ?_
    refine s_iadd dX10_lawful_83 ?_
    obtain ⟨hb1, h⟩ := gd h
    refine s_iaload dX10_lawful_84 (trX10_0 ho) hb1.1 hb1.2 ?_
    refine s_icmp_ge (tgt := 115) dX10_lawful_85 rfl (fun hc2 => ?_) (fun hc2 => ?_)
    · have h := ifp hc2 h
      refine s_iinc (ls' := [(7, vI (xw (x7 + 1))), (0, vR o), (5, vI x5), (6, vI x6), (8, vI x8), (9, vI x9)]) (j := 3) dX10_lawful_115 rfl (Nat.le_of_ble_eq_true rfl) rfl ?_
      refine s_goto (tgt := 43) dX10_lawful_118 rfl ?_
      exact s_sub (ks := [1, 2, 3, 0]) rfl (hk43 o x5 x6 (xw (x7 + 1)) F _ ho h hq)
    · have h := ifn hc2 h
      refine s_aload_n (j := 0) dX10_lawful_88 rfl rfl ?_
      refine s_aload_n (j := 0) dX10_lawful_89 rfl rfl ?_
      refine s_getR dX10_lawful_90 flX10_7 ho ?_
      refine s_iload (j := 4) dX10_lawful_93 rfl ?_
      obtain ⟨hb3, h⟩ := gd h
      refine s_iaload dX10_lawful_95 (trX10_0 ho) hb3.1 hb3.2 ?_
      refine s_iload (j := 1) dX10_lawful_96 rfl ?_
      refine s_iload (j := 5) dX10_lawful_98 rfl ?_
      obtain ⟨r4, hv5, h⟩ := bnd h
      refine s_callV (As := [vI (F (o + 1) x8.toNat), vI x5, vI x9]) (rest := []) (r := (some (vI r4))) (F' := F) dX10_lawful_100 (clX10_279 (Nat.le_of_ble_eq_true rfl) (Nat.le_of_ble_eq_true rfl)) ho rfl ⟨_, _, _, _, _, rfl, ho, hv5, rfl, rfl⟩ rfl (Nat.le_of_ble_eq_true rfl) ?_
      refine s_if_ne (tgt := 109) dX10_lawful_103 rfl (fun hc6 => ?_) (fun hc6 => ?_)
      · have h := ifp hc6 h
        refine s_iinc (ls' := [(9, vI (xw (x9 + 1))), (0, vR o), (5, vI x5), (6, vI x6), (7, vI x7), (8, vI x8)]) (j := 5) dX10_lawful_109 rfl (Nat.le_of_ble_eq_true rfl) rfl ?_
        refine s_goto (tgt := 74) dX10_lawful_112 rfl ?_
        exact s_sub (ks := [1, 2, 3, 4, 5, 0]) rfl (ih o x5 x6 x7 x8 (xw (x9 + 1)) F _ ho h hq)
      · have h := ifn hc6 h
        refine s_iload (j := 3) dX10_lawful_106 rfl ?_
        have h := Option.some.inj h
        subst h
        exact s_ireturn dX10_lawful_108 rfl hq
theorem fX10_lawful_b43_ok {Qr : Option PV → Mem → Prop}  : ∀ (n : Nat) (o : Nat) (x5 : Int) (x6 : Int) (x7 : Int) (F : Mem) (res : (Int × Mem)) (ho : isK o 10), fX10_lawful_b43 n o x5 x6 x7 F = some res → Qr (some (vI res.1)) res.2 → PR cX10_lawful (zX10_lawful Qr) 43 [(0, vR o), (5, vI x5), (6, vI x6), (7, vI x7)] [] F := by
  intro n
  induction n with
  | zero => intro o x5 x6 x7 F res ho h hq; exact nomatch (show (none : Option _) = some _ from h)
  | succ n ih =>
    intro o x5 x6 x7 F res ho h hq
    refine s_iload (j := 3) dX10_lawful_43 rfl ?_
    refine s_aload_n (j := 0) dX10_lawful_45 rfl rfl ?_
    refine s_getI dX10_lawful_46 flX10_205 ho ?_
    refine s_icmp_ge (tgt := 121) dX10_lawful_49 rfl (fun hc1 => ?_) (fun hc1 => ?_)
    · have h := ifp hc1 h
      refine s_iconst dX10_lawful_121 (cin rfl) ?_
      have h := Option.some.inj h
      subst h
      exact s_ireturn dX10_lawful_122 rfl hq
    · have h := ifn hc1 h
      refine s_iload (j := 2) dX10_lawful_52 rfl ?_
      refine s_iconst dX10_lawful_54 (cin rfl) ?_
      refine s_iadd dX10_lawful_55 ?_
      refine s_iconst dX10_lawful_56 (cin rfl) ?_
      refine s_iload (j := 3) dX10_lawful_57 rfl ?_
      refine s_imul dX10_lawful_59 ?_
      refine s_iadd dX10_lawful_60 ?_
      refine s_istore (ls' := [(8, vI (xw ((xw (x6 + 1)) + (xw (3 * x7))))), (0, vR o), (5, vI x5), (6, vI x6), (7, vI x7)]) dX10_lawful_61 (Nat.le_of_ble_eq_true rfl) rfl ?_
      refine s_aload_n (j := 1) dX10_lawful_63 rfl rfl ?_
      refine s_getR dX10_lawful_64 flX10_7 ho ?_
      refine s_iload (j := 0) dX10_lawful_67 rfl ?_
      refine s_iconst dX10_lawful_69 (cin rfl) ?_
      refine s_iadd dX10_lawful_70 ?_
      obtain ⟨hb2, h⟩ := gd h
      refine s_iaload dX10_lawful_71 (trX10_0 ho) hb2.1 hb2.2 ?_
      refine s_istore dX10_lawful_72 (Nat.le_of_ble_eq_true rfl) rfl ?_
      exact s_sub (ks := [2, 3, 4, 5, 1, 0]) rfl (fX10_lawful_b74_ok (fX10_lawful_b43 n) ih FU o x5 x6 x7 (xw ((xw (x6 + 1)) + (xw (3 * x7)))) (F (o + 1) (xw ((xw ((xw (x6 + 1)) + (xw (3 * x7)))) + 1)).toNat) F _ ho h hq)
theorem fX10_lawful_ok {Qr : Option PV → Mem → Prop} : ∀ (o : Nat) (x1 : Int) (x2 : Int) (x3 : Int) (x4 : Int) (x5 : Int) (F : Mem) (res : (Int × Mem)) (ho : isK o 10), fX10_lawful o x1 x2 x3 x4 x5 F = some res → Qr (some (vI res.1)) res.2 → PR cX10_lawful (zX10_lawful Qr) 0 [(0, vR o), (1, vI x1), (2, vI x2), (3, vI x3), (4, vI x4), (5, vI x5)] [] F := by
  intro o x1 x2 x3 x4 x5 F res ho h hq
  refine s_iload (j := 5) dX10_lawful_0 rfl ?_
  refine s_iconst dX10_lawful_2 (cin rfl) ?_
  refine s_bipush dX10_lawful_3 rfl (cin rfl) ?_
  refine s_callS (As := [vI x5, vI 0, vI 6]) (rest := []) (r := (some (vI (fX10_isIn x5 0 6)))) (F' := F) dX10_lawful_5 (clX10_115 (Nat.le_of_ble_eq_true rfl) (Nat.le_of_ble_eq_true rfl)) rfl ⟨_, _, _, _, rfl, rfl, rfl, rfl⟩ rfl (Nat.le_of_ble_eq_true rfl) ?_
  refine s_if_eq (tgt := 30) dX10_lawful_8 rfl (fun hc1 => ?_) (fun hc1 => ?_)
  · have h := ifp hc1 h
    refine s_bipush dX10_lawful_30 rfl (cin rfl) ?_
    have h := Option.some.inj h
    subst h
    exact s_ireturn dX10_lawful_32 rfl hq
  · have h := ifn hc1 h
    refine s_aload_n (j := 0) dX10_lawful_11 rfl rfl ?_
    refine s_iload_n (j := 3) dX10_lawful_12 rfl rfl ?_
    refine s_iload (j := 4) dX10_lawful_13 rfl ?_
    obtain ⟨q2, hv3, h⟩ := bnd h
    refine s_callV (As := [vI x3, vI x4]) (rest := []) (r := (some (vI q2.1))) (F' := q2.2) dX10_lawful_15 (clX10_276 (Nat.le_of_ble_eq_true rfl) (Nat.le_of_ble_eq_true rfl)) ho rfl ⟨_, _, _, _, rfl, ho, hv3, rfl, rfl⟩ rfl (Nat.le_of_ble_eq_true rfl) ?_
    refine s_if_eq (tgt := 30) dX10_lawful_18 rfl (fun hc4 => ?_) (fun hc4 => ?_)
    · have h := ifp hc4 h
      refine s_bipush dX10_lawful_30 rfl (cin rfl) ?_
      have h := Option.some.inj h
      subst h
      exact s_ireturn dX10_lawful_32 rfl hq
    · have h := ifn hc4 h
      refine s_aload_n (j := 0) dX10_lawful_21 rfl rfl ?_
      refine s_iload_n (j := 1) dX10_lawful_22 rfl rfl ?_
      refine s_iload_n (j := 2) dX10_lawful_23 rfl rfl ?_
      obtain ⟨q5, hv6, h⟩ := bnd h
      refine s_callV (As := [vI x1, vI x2]) (rest := []) (r := (some (vI q5.1))) (F' := q5.2) dX10_lawful_24 (clX10_227 (Nat.le_of_ble_eq_true rfl) (Nat.le_of_ble_eq_true rfl)) ho rfl ⟨_, _, _, _, rfl, ho, hv6, rfl, rfl⟩ rfl (Nat.le_of_ble_eq_true rfl) ?_
      refine s_if_ne (tgt := 33) dX10_lawful_27 rfl (fun hc7 => ?_) (fun hc7 => ?_)
      · have h := ifp hc7 h
        refine s_iconst dX10_lawful_33 (cin rfl) ?_
        refine s_iload_n (j := 2) dX10_lawful_34 rfl rfl ?_
        refine s_callS (As := [vI 1, vI x2]) (rest := []) (r := (some (vI (fX10_placeOf 1 x2)))) (F' := q5.2) dX10_lawful_35 (clX10_169 (Nat.le_of_ble_eq_true rfl) (Nat.le_of_ble_eq_true rfl)) rfl ⟨_, _, _, rfl, rfl, rfl, rfl⟩ rfl (Nat.le_of_ble_eq_true rfl) ?_
        refine s_istore (ls' := [(6, vI (fX10_placeOf 1 x2)), (0, vR o), (1, vI x1), (2, vI x2), (3, vI x3), (4, vI x4), (5, vI x5)]) dX10_lawful_38 (Nat.le_of_ble_eq_true rfl) rfl ?_
        refine s_iconst dX10_lawful_40 (cin rfl) ?_
        refine s_istore dX10_lawful_41 (Nat.le_of_ble_eq_true rfl) rfl ?_
        exact s_sub (ks := [2, 7, 1, 0]) rfl (fX10_lawful_b43_ok FU o x5 (fX10_placeOf 1 x2) 0 q5.2 _ ho h hq)
      · have h := ifn hc7 h
        refine s_bipush dX10_lawful_30 rfl (cin rfl) ?_
        have h := Option.some.inj h
        subst h
        exact s_ireturn dX10_lawful_32 rfl hq
def gX10_lawful : XG := fun As F r F' => ∃ o : Nat, ∃ x1 : Int, ∃ x2 : Int, ∃ x3 : Int, ∃ x4 : Int, ∃ x5 : Int, ∃ res : (Int × Mem), As = [vR o, vI x1, vI x2, vI x3, vI x4, vI x5] ∧ isK o 10 ∧ fX10_lawful o x1 x2 x3 x4 x5 F = some res ∧ r = some (vI res.1) ∧ F' = res.2
theorem ctX10_lawful : xCT yX10_lawful cX10_lawful 10 (some FieldType.int) 6 134 gX10_lawful := xmet (by decide +kernel) (fun As F r F' hg => by obtain ⟨o, x1, x2, x3, x4, x5, res, rfl, ho, h, rfl, rfl⟩ := hg; exact Nat.le_of_ble_eq_true rfl) (fun As F r F' hg => by obtain ⟨o, x1, x2, x3, x4, x5, res, rfl, ho, h, rfl, rfl⟩ := hg; exact fX10_lawful_ok o x1 x2 x3 x4 x5 _ _ ho h ⟨rfl, rfl⟩)
theorem mcX10_lawful : Cond.code yX10_lawful cX10_lawful 10 (some FieldType.int) ∈ xw_T ∧ Cond.initialized yX10_lawful.cls ∈ xw_T ∧ Cond.instanceMethod yX10_lawful ∈ xw_T ∧ Cond.selects yX10_lawful.cls yX10_lawful yX10_lawful ∈ xw_T := ⟨(xinT 1740 (by decide +kernel) (by decide +kernel)), (xinT 127 (by decide +kernel) (by decide +kernel)), (xinT 1738 (by decide +kernel) (by decide +kernel)), (xinT 1739 (by decide +kernel) (by decide +kernel))⟩
theorem dX10_plain_0 : decode cX10_plain 0 = .ok (.aload_n 0, 1) := by decide +kernel
theorem dX10_plain_1 : decode cX10_plain 1 = .ok (.iconst 0, 1) := by decide +kernel
theorem dX10_plain_2 : decode cX10_plain 2 = .ok (.putfield 282, 3) := by decide +kernel
theorem dX10_plain_5 : decode cX10_plain 5 = .ok (.aload_n 0, 1) := by decide +kernel
theorem dX10_plain_6 : decode cX10_plain 6 = .ok (.iconst 1, 1) := by decide +kernel
theorem dX10_plain_7 : decode cX10_plain 7 = .ok (.putfield 51, 3) := by decide +kernel
theorem dX10_plain_10 : decode cX10_plain 10 = .ok (.aload_n 0, 1) := by decide +kernel
theorem dX10_plain_11 : decode cX10_plain 11 = .ok (.iconst 0, 1) := by decide +kernel
theorem dX10_plain_12 : decode cX10_plain 12 = .ok (.putfield 285, 3) := by decide +kernel
theorem dX10_plain_15 : decode cX10_plain 15 = .ok (.aload_n 0, 1) := by decide +kernel
theorem dX10_plain_16 : decode cX10_plain 16 = .ok (.iconst (-1), 1) := by decide +kernel
theorem dX10_plain_17 : decode cX10_plain 17 = .ok (.putfield 55, 3) := by decide +kernel
theorem dX10_plain_20 : decode cX10_plain 20 = .ok (.aload_n 0, 1) := by decide +kernel
theorem dX10_plain_21 : decode cX10_plain 21 = .ok (.iconst 0, 1) := by decide +kernel
theorem dX10_plain_22 : decode cX10_plain 22 = .ok (.putfield 288, 3) := by decide +kernel
theorem dX10_plain_25 : decode cX10_plain 25 = .ok (.aload_n 0, 1) := by decide +kernel
theorem dX10_plain_26 : decode cX10_plain 26 = .ok (.iconst 0, 1) := by decide +kernel
theorem dX10_plain_27 : decode cX10_plain 27 = .ok (.putfield 291, 3) := by decide +kernel
theorem dX10_plain_30 : decode cX10_plain 30 = .ok (.aload_n 0, 1) := by decide +kernel
theorem dX10_plain_31 : decode cX10_plain 31 = .ok (.iconst (-1), 1) := by decide +kernel
theorem dX10_plain_32 : decode cX10_plain 32 = .ok (.putfield 20, 3) := by decide +kernel
theorem dX10_plain_35 : decode cX10_plain 35 = .ok (.aload_n 0, 1) := by decide +kernel
theorem dX10_plain_36 : decode cX10_plain 36 = .ok (.iconst (-1), 1) := by decide +kernel
theorem dX10_plain_37 : decode cX10_plain 37 = .ok (.putfield 24, 3) := by decide +kernel
theorem dX10_plain_40 : decode cX10_plain 40 = .ok (.aload_n 0, 1) := by decide +kernel
theorem dX10_plain_41 : decode cX10_plain 41 = .ok (.iconst 0, 1) := by decide +kernel
theorem dX10_plain_42 : decode cX10_plain 42 = .ok (.putfield 178, 3) := by decide +kernel
theorem dX10_plain_45 : decode cX10_plain 45 = .ok (.aload_n 0, 1) := by decide +kernel
theorem dX10_plain_46 : decode cX10_plain 46 = .ok (.iconst 0, 1) := by decide +kernel
theorem dX10_plain_47 : decode cX10_plain 47 = .ok (.putfield 294, 3) := by decide +kernel
theorem dX10_plain_50 : decode cX10_plain 50 = .ok (.return_, 1) := by decide +kernel
def zX10_plain (Qr : Option PV → Mem → Prop) : XZ := (RX10, 0, 0, 1, none, Qr)
noncomputable def fX10_plain (o : Nat) (F : Mem) : Mem :=
  mset (mset (mset (mset (mset (mset (mset (mset (mset (mset F o 28 0) o 29 1) o 30 0) o 32 (-1)) o 36 0) o 37 0) o 11 (-1)) o 13 (-1)) o 12 0) o 31 0
theorem fX10_plain_ok {Qr : Option PV → Mem → Prop} : ∀ (o : Nat) (F : Mem) (res : Mem) (ho : isK o 10), fX10_plain o F = res → Qr none res → PR cX10_plain (zX10_plain Qr) 0 [(0, vR o)] [] F := by
  intro o F res ho h hq
  refine s_aload_n (j := 0) dX10_plain_0 rfl rfl ?_
  refine s_iconst dX10_plain_1 (cin rfl) ?_
  refine s_putZ dX10_plain_2 flX10_282 fpX10_28 ho (Or.inl rfl) ?_
  refine s_aload_n (j := 0) dX10_plain_5 rfl rfl ?_
  refine s_iconst dX10_plain_6 (cin rfl) ?_
  refine s_putZ dX10_plain_7 flX10_51 fpX10_29 ho (Or.inr rfl) ?_
  refine s_aload_n (j := 0) dX10_plain_10 rfl rfl ?_
  refine s_iconst dX10_plain_11 (cin rfl) ?_
  refine s_putZ dX10_plain_12 flX10_285 fpX10_30 ho (Or.inl rfl) ?_
  refine s_aload_n (j := 0) dX10_plain_15 rfl rfl ?_
  refine s_iconst dX10_plain_16 (cin rfl) ?_
  refine s_putI dX10_plain_17 flX10_55 fpX10_32 ho ?_
  refine s_aload_n (j := 0) dX10_plain_20 rfl rfl ?_
  refine s_iconst dX10_plain_21 (cin rfl) ?_
  refine s_putI dX10_plain_22 flX10_288 fpX10_36 ho ?_
  refine s_aload_n (j := 0) dX10_plain_25 rfl rfl ?_
  refine s_iconst dX10_plain_26 (cin rfl) ?_
  refine s_putI dX10_plain_27 flX10_291 fpX10_37 ho ?_
  refine s_aload_n (j := 0) dX10_plain_30 rfl rfl ?_
  refine s_iconst dX10_plain_31 (cin rfl) ?_
  refine s_putI dX10_plain_32 flX10_20 fpX10_11 ho ?_
  refine s_aload_n (j := 0) dX10_plain_35 rfl rfl ?_
  refine s_iconst dX10_plain_36 (cin rfl) ?_
  refine s_putI dX10_plain_37 flX10_24 fpX10_13 ho ?_
  refine s_aload_n (j := 0) dX10_plain_40 rfl rfl ?_
  refine s_iconst dX10_plain_41 (cin rfl) ?_
  refine s_putI dX10_plain_42 flX10_178 fpX10_12 ho ?_
  refine s_aload_n (j := 0) dX10_plain_45 rfl rfl ?_
  refine s_iconst dX10_plain_46 (cin rfl) ?_
  refine s_putZ dX10_plain_47 flX10_294 fpX10_31 ho (Or.inl rfl) ?_
  subst h
  exact s_return dX10_plain_50 rfl hq
def gX10_plain : XG := fun As F r F' => ∃ o : Nat, ∃ res : Mem, As = [vR o] ∧ isK o 10 ∧ fX10_plain o F = res ∧ r = none ∧ F' = res
theorem ctX10_plain : xCT yX10_plain cX10_plain 1 (none) 0 0 gX10_plain := xmet (by decide +kernel) (fun As F r F' hg => by obtain ⟨o, res, rfl, ho, h, rfl, rfl⟩ := hg; exact Nat.le_of_ble_eq_true rfl) (fun As F r F' hg => by obtain ⟨o, res, rfl, ho, h, rfl, rfl⟩ := hg; exact fX10_plain_ok o _ _ ho h ⟨rfl, rfl⟩)
theorem mcX10_plain : Cond.code yX10_plain cX10_plain 1 (none) ∈ xw_T ∧ Cond.initialized yX10_plain.cls ∈ xw_T ∧ Cond.instanceMethod yX10_plain ∈ xw_T ∧ Cond.selects yX10_plain.cls yX10_plain yX10_plain ∈ xw_T := ⟨(xinT 1756 (by decide +kernel) (by decide +kernel)), (xinT 127 (by decide +kernel) (by decide +kernel)), (xinT 1755 (by decide +kernel) (by decide +kernel)), (xinT 86 (by decide +kernel) (by decide +kernel))⟩
theorem clX10_346 {fr lo : Nat} (h1 : 0 + 1 ≤ fr) (h2 : 8 + (1 + 11) + 0 ≤ lo) : xCall RX10 fr lo 0 346 10 0 gX10_plain := ⟨_, _, _, _, _, _, ctX10_plain, h1, h2, mcX10_plain.1, (xinT 1753 (by decide +kernel) (by decide +kernel)), mcX10_plain.2.1, ⟨by decide +kernel, by decide +kernel, by decide +kernel⟩, by rw [if_pos rfl]; exact ⟨mcX10_plain.2.2.1, mcX10_plain.2.2.2, _, _, rfl⟩⟩
theorem dX10_mustIn_0 : decode cX10_mustIn 0 = .ok (.iconst (-1), 1) := by decide +kernel
theorem dX10_mustIn_1 : decode cX10_mustIn 1 = .ok (.istore_n 2, 1) := by decide +kernel
theorem dX10_mustIn_2 : decode cX10_mustIn 2 = .ok (.iload_n 1, 1) := by decide +kernel
theorem dX10_mustIn_3 : decode cX10_mustIn 3 = .ok (.aload_n 0, 1) := by decide +kernel
theorem dX10_mustIn_4 : decode cX10_mustIn 4 = .ok (.iconst 0, 1) := by decide +kernel
theorem dX10_mustIn_5 : decode cX10_mustIn 5 = .ok (.invokevirtual 181, 3) := by decide +kernel
theorem dX10_mustIn_8 : decode cX10_mustIn 8 = .ok (.irem, 1) := by decide +kernel
theorem dX10_mustIn_9 : decode cX10_mustIn 9 = .ok (.istore_n 3, 1) := by decide +kernel
theorem dX10_mustIn_10 : decode cX10_mustIn 10 = .ok (.iconst 0, 1) := by decide +kernel
theorem dX10_mustIn_11 : decode cX10_mustIn 11 = .ok (.istore 4, 2) := by decide +kernel
theorem dX10_mustIn_13 : decode cX10_mustIn 13 = .ok (.iload 4, 2) := by decide +kernel
theorem dX10_mustIn_15 : decode cX10_mustIn 15 = .ok (.aload_n 0, 1) := by decide +kernel
theorem dX10_mustIn_16 : decode cX10_mustIn 16 = .ok (.bipush 6, 2) := by decide +kernel
theorem dX10_mustIn_18 : decode cX10_mustIn 18 = .ok (.invokevirtual 181, 3) := by decide +kernel
theorem dX10_mustIn_21 : decode cX10_mustIn 21 = .ok (.if_icmp .ge 71, 3) := by decide +kernel
theorem dX10_mustIn_24 : decode cX10_mustIn 24 = .ok (.aload_n 0, 1) := by decide +kernel
theorem dX10_mustIn_25 : decode cX10_mustIn 25 = .ok (.getfield 51, 3) := by decide +kernel
theorem dX10_mustIn_28 : decode cX10_mustIn 28 = .ok (.ifCond .eq 64, 3) := by decide +kernel
theorem dX10_mustIn_31 : decode cX10_mustIn 31 = .ok (.iload_n 3, 1) := by decide +kernel
theorem dX10_mustIn_32 : decode cX10_mustIn 32 = .ok (.aload_n 0, 1) := by decide +kernel
theorem dX10_mustIn_33 : decode cX10_mustIn 33 = .ok (.iload 4, 2) := by decide +kernel
theorem dX10_mustIn_35 : decode cX10_mustIn 35 = .ok (.iconst 1, 1) := by decide +kernel
theorem dX10_mustIn_36 : decode cX10_mustIn 36 = .ok (.invokevirtual 186, 3) := by decide +kernel
theorem dX10_mustIn_39 : decode cX10_mustIn 39 = .ok (.aload_n 0, 1) := by decide +kernel
theorem dX10_mustIn_40 : decode cX10_mustIn 40 = .ok (.iload 4, 2) := by decide +kernel
theorem dX10_mustIn_42 : decode cX10_mustIn 42 = .ok (.iconst 2, 1) := by decide +kernel
theorem dX10_mustIn_43 : decode cX10_mustIn 43 = .ok (.invokevirtual 186, 3) := by decide +kernel
theorem dX10_mustIn_46 : decode cX10_mustIn 46 = .ok (.iconst 1, 1) := by decide +kernel
theorem dX10_mustIn_47 : decode cX10_mustIn 47 = .ok (.isub, 1) := by decide +kernel
theorem dX10_mustIn_48 : decode cX10_mustIn 48 = .ok (.invokestatic 115, 3) := by decide +kernel
theorem dX10_mustIn_51 : decode cX10_mustIn 51 = .ok (.ifCond .ne 6, 3) := by decide +kernel
theorem dX10_mustIn_54 : decode cX10_mustIn 54 = .ok (.goto 32, 3) := by decide +kernel
theorem dX10_mustIn_57 : decode cX10_mustIn 57 = .ok (.iload_n 2, 1) := by decide +kernel
theorem dX10_mustIn_58 : decode cX10_mustIn 58 = .ok (.iconst (-1), 1) := by decide +kernel
theorem dX10_mustIn_59 : decode cX10_mustIn 59 = .ok (.if_icmp .eq 14, 3) := by decide +kernel
theorem dX10_mustIn_62 : decode cX10_mustIn 62 = .ok (.iload_n 2, 1) := by decide +kernel
theorem dX10_mustIn_63 : decode cX10_mustIn 63 = .ok (.aload_n 0, 1) := by decide +kernel
theorem dX10_mustIn_64 : decode cX10_mustIn 64 = .ok (.iload 4, 2) := by decide +kernel
theorem dX10_mustIn_66 : decode cX10_mustIn 66 = .ok (.iconst 0, 1) := by decide +kernel
theorem dX10_mustIn_67 : decode cX10_mustIn 67 = .ok (.invokevirtual 186, 3) := by decide +kernel
theorem dX10_mustIn_70 : decode cX10_mustIn 70 = .ok (.if_icmp .ne 13, 3) := by decide +kernel
theorem dX10_mustIn_73 : decode cX10_mustIn 73 = .ok (.aload_n 0, 1) := by decide +kernel
theorem dX10_mustIn_74 : decode cX10_mustIn 74 = .ok (.iload 4, 2) := by decide +kernel
theorem dX10_mustIn_76 : decode cX10_mustIn 76 = .ok (.iconst 0, 1) := by decide +kernel
theorem dX10_mustIn_77 : decode cX10_mustIn 77 = .ok (.invokevirtual 186, 3) := by decide +kernel
theorem dX10_mustIn_80 : decode cX10_mustIn 80 = .ok (.goto 5, 3) := by decide +kernel
theorem dX10_mustIn_83 : decode cX10_mustIn 83 = .ok (.bipush (-2), 2) := by decide +kernel
theorem dX10_mustIn_85 : decode cX10_mustIn 85 = .ok (.istore_n 2, 1) := by decide +kernel
theorem dX10_mustIn_86 : decode cX10_mustIn 86 = .ok (.iinc 4 1, 3) := by decide +kernel
theorem dX10_mustIn_89 : decode cX10_mustIn 89 = .ok (.goto (-76), 3) := by decide +kernel
theorem dX10_mustIn_92 : decode cX10_mustIn 92 = .ok (.aload_n 0, 1) := by decide +kernel
theorem dX10_mustIn_93 : decode cX10_mustIn 93 = .ok (.getfield 55, 3) := by decide +kernel
theorem dX10_mustIn_96 : decode cX10_mustIn 96 = .ok (.iconst (-1), 1) := by decide +kernel
theorem dX10_mustIn_97 : decode cX10_mustIn 97 = .ok (.if_icmp .eq 43, 3) := by decide +kernel
theorem dX10_mustIn_100 : decode cX10_mustIn 100 = .ok (.iload_n 1, 1) := by decide +kernel
theorem dX10_mustIn_101 : decode cX10_mustIn 101 = .ok (.aload_n 0, 1) := by decide +kernel
theorem dX10_mustIn_102 : decode cX10_mustIn 102 = .ok (.getfield 297, 3) := by decide +kernel
theorem dX10_mustIn_105 : decode cX10_mustIn 105 = .ok (.aload_n 0, 1) := by decide +kernel
theorem dX10_mustIn_106 : decode cX10_mustIn 106 = .ok (.getfield 300, 3) := by decide +kernel
theorem dX10_mustIn_109 : decode cX10_mustIn 109 = .ok (.iconst 1, 1) := by decide +kernel
theorem dX10_mustIn_110 : decode cX10_mustIn 110 = .ok (.isub, 1) := by decide +kernel
theorem dX10_mustIn_111 : decode cX10_mustIn 111 = .ok (.invokestatic 115, 3) := by decide +kernel
theorem dX10_mustIn_114 : decode cX10_mustIn 114 = .ok (.ifCond .eq 26, 3) := by decide +kernel
theorem dX10_mustIn_117 : decode cX10_mustIn 117 = .ok (.iload_n 2, 1) := by decide +kernel
theorem dX10_mustIn_118 : decode cX10_mustIn 118 = .ok (.iconst (-1), 1) := by decide +kernel
theorem dX10_mustIn_119 : decode cX10_mustIn 119 = .ok (.if_icmp .eq 11, 3) := by decide +kernel
theorem dX10_mustIn_122 : decode cX10_mustIn 122 = .ok (.iload_n 2, 1) := by decide +kernel
theorem dX10_mustIn_123 : decode cX10_mustIn 123 = .ok (.aload_n 0, 1) := by decide +kernel
theorem dX10_mustIn_124 : decode cX10_mustIn 124 = .ok (.getfield 55, 3) := by decide +kernel
theorem dX10_mustIn_127 : decode cX10_mustIn 127 = .ok (.if_icmp .ne 10, 3) := by decide +kernel
theorem dX10_mustIn_130 : decode cX10_mustIn 130 = .ok (.aload_n 0, 1) := by decide +kernel
theorem dX10_mustIn_131 : decode cX10_mustIn 131 = .ok (.getfield 55, 3) := by decide +kernel
theorem dX10_mustIn_134 : decode cX10_mustIn 134 = .ok (.goto 5, 3) := by decide +kernel
theorem dX10_mustIn_137 : decode cX10_mustIn 137 = .ok (.bipush (-2), 2) := by decide +kernel
theorem dX10_mustIn_139 : decode cX10_mustIn 139 = .ok (.istore_n 2, 1) := by decide +kernel
theorem dX10_mustIn_140 : decode cX10_mustIn 140 = .ok (.iload_n 2, 1) := by decide +kernel
theorem dX10_mustIn_141 : decode cX10_mustIn 141 = .ok (.ireturn, 1) := by decide +kernel
def zX10_mustIn (Qr : Option PV → Mem → Prop) : XZ := (RX10, 1, 22, 5, some FieldType.int, Qr)
noncomputable def fX10_mustIn_b92 (F : Mem) (o : Nat) (x1 : Int) (x2 : Int) : Option Int :=
  if (F o 32) = (-1) then
    some x2
  else
    if (fX10_isIn x1 (F o 33) (xw ((F o 34) - 1))) = 0 then
      some x2
    else
      if x2 = (-1) then
        some (F o 32)
      else
        if x2 ≠ (F o 32) then
          some (-2)
        else
          some (F o 32)
noncomputable def fX10_mustIn_b73 (F : Mem) (k13 : Nat → Int → Int → Int → Int → Option Int) (o : Nat) (x1 : Int) (x3 : Int) (x4 : Int) : Option Int :=
  (fX10_mustOf o x4 0 F).bind fun r1 =>
  k13 o x1 r1 x3 (xw (x4 + 1))
noncomputable def fX10_mustIn_b13 (F : Mem) : Nat → Nat → Int → Int → Int → Int → Option Int
  | 0, _, _, _, _, _ => none
  | n + 1, o, x1, x2, x3, x4 =>
    (fX10_of o 6 F).bind fun r1 =>
    if r1 ≤ x4 then
      fX10_mustIn_b92 F o x1 x2
    else
      if (F o 29) = 0 then
        fX10_mustIn_b92 F o x1 x2
      else
        (fX10_mustOf o x4 1 F).bind fun r5 =>
        (fX10_mustOf o x4 2 F).bind fun r7 =>
        if (fX10_isIn x3 r5 (xw (r7 - 1))) ≠ 0 then
          if x2 = (-1) then
            fX10_mustIn_b73 F (fX10_mustIn_b13 F n) o x1 x3 x4
          else
            (fX10_mustOf o x4 0 F).bind fun r11 =>
            if x2 ≠ r11 then
              fX10_mustIn_b13 F n o x1 (-2) x3 (xw (x4 + 1))
            else
              fX10_mustIn_b73 F (fX10_mustIn_b13 F n) o x1 x3 x4
        else
          fX10_mustIn_b13 F n o x1 x2 x3 (xw (x4 + 1))
noncomputable def fX10_mustIn (o : Nat) (x1 : Int) (F : Mem) : Option Int :=
  (fX10_of o 0 F).bind fun r1 =>
  if r1 = 0 then none else
  fX10_mustIn_b13 F FU o x1 (-1) (Int.tmod x1 r1) 0
theorem fX10_mustIn_b92_ok {Qr : Option PV → Mem → Prop}  (F : Mem) : ∀ (o : Nat) (x1 : Int) (x2 : Int) (res : Int) (ho : isK o 10), fX10_mustIn_b92 F o x1 x2 = some res → Qr (some (vI res)) F → PR cX10_mustIn (zX10_mustIn Qr) 92 [(0, vR o), (1, vI x1), (2, vI x2)] [] F := by
  intro o x1 x2 res ho h hq
  refine s_aload_n (j := 0) dX10_mustIn_92 rfl rfl ?_
  refine s_getI dX10_mustIn_93 flX10_55 ho ?_
  refine s_iconst dX10_mustIn_96 (cin rfl) ?_
  refine s_icmp_eq (tgt := 140) dX10_mustIn_97 rfl (fun hc1 => ?_) (fun hc1 => ?_)
  · have h := ifp hc1 h
    refine s_iload_n (j := 2) dX10_mustIn_140 rfl rfl ?_
    have h := Option.some.inj h
    subst h
    exact s_ireturn dX10_mustIn_141 rfl hq
  · have h := ifn hc1 h
    refine s_iload_n (j := 1) dX10_mustIn_100 rfl rfl ?_
    refine s_aload_n (j := 0) dX10_mustIn_101 rfl rfl ?_
    refine s_getI dX10_mustIn_102 flX10_297 ho ?_
    refine s_aload_n (j := 0) dX10_mustIn_105 rfl rfl ?_
    refine s_getI dX10_mustIn_106 flX10_300 ho ?_
    refine s_iconst dX10_mustIn_109 (cin rfl) ?_
    refine s_isub dX10_mustIn_110 ?_
    refine s_callS (As := [vI x1, vI (F o 33), vI (xw ((F o 34) - 1))]) (rest := []) (r := (some (vI (fX10_isIn x1 (F o 33) (xw ((F o 34) - 1)))))) (F' := F) dX10_mustIn_111 (clX10_115 (Nat.le_of_ble_eq_true rfl) (Nat.le_of_ble_eq_true rfl)) rfl ⟨_, _, _, _, rfl, rfl, rfl, rfl⟩ rfl (Nat.le_of_ble_eq_true rfl) ?_
    refine s_if_eq (tgt := 140) dX10_mustIn_114 rfl (fun hc2 => ?_) (fun hc2 => ?_)
    · have h := ifp hc2 h
      refine s_iload_n (j := 2) dX10_mustIn_140 rfl rfl ?_
      have h := Option.some.inj h
      subst h
      exact s_ireturn dX10_mustIn_141 rfl hq
    · have h := ifn hc2 h
      refine s_iload_n (j := 2) dX10_mustIn_117 rfl rfl ?_
      refine s_iconst dX10_mustIn_118 (cin rfl) ?_
      refine s_icmp_eq (tgt := 130) dX10_mustIn_119 rfl (fun hc3 => ?_) (fun hc3 => ?_)
      · have h := ifp hc3 h
        refine s_aload_n (j := 0) dX10_mustIn_130 rfl rfl ?_
        refine s_getI dX10_mustIn_131 flX10_55 ho ?_
        refine s_goto (tgt := 139) dX10_mustIn_134 rfl ?_
        refine s_istore_n (ls' := [(2, vI (F o 32)), (0, vR o), (1, vI x1)]) dX10_mustIn_139 rfl (Nat.le_of_ble_eq_true rfl) rfl ?_
        refine s_iload_n (j := 0) dX10_mustIn_140 rfl rfl ?_
        have h := Option.some.inj h
        subst h
        exact s_ireturn dX10_mustIn_141 rfl hq
      · have h := ifn hc3 h
        refine s_iload_n (j := 2) dX10_mustIn_122 rfl rfl ?_
        refine s_aload_n (j := 0) dX10_mustIn_123 rfl rfl ?_
        refine s_getI dX10_mustIn_124 flX10_55 ho ?_
        refine s_icmp_ne (tgt := 137) dX10_mustIn_127 rfl (fun hc4 => ?_) (fun hc4 => ?_)
        · have h := ifp hc4 h
          refine s_bipush dX10_mustIn_137 rfl (cin rfl) ?_
          refine s_istore_n (ls' := [(2, vI (-2)), (0, vR o), (1, vI x1)]) dX10_mustIn_139 rfl (Nat.le_of_ble_eq_true rfl) rfl ?_
          refine s_iload_n (j := 0) dX10_mustIn_140 rfl rfl ?_
          have h := Option.some.inj h
          subst h
          exact s_ireturn dX10_mustIn_141 rfl hq
        · have h := ifn hc4 h
          refine s_aload_n (j := 0) dX10_mustIn_130 rfl rfl ?_
          refine s_getI dX10_mustIn_131 flX10_55 ho ?_
          refine s_goto (tgt := 139) dX10_mustIn_134 rfl ?_
          refine s_istore_n (ls' := [(2, vI (F o 32)), (0, vR o), (1, vI x1)]) dX10_mustIn_139 rfl (Nat.le_of_ble_eq_true rfl) rfl ?_
          refine s_iload_n (j := 0) dX10_mustIn_140 rfl rfl ?_
          have h := Option.some.inj h
          subst h
          exact s_ireturn dX10_mustIn_141 rfl hq
theorem fX10_mustIn_b73_ok {Qr : Option PV → Mem → Prop}  (F : Mem) (k13 : Nat → Int → Int → Int → Int → Option Int) (hk13 : ∀ (o : Nat) (x1 : Int) (x2 : Int) (x3 : Int) (x4 : Int) (res : Int) (ho : isK o 10), k13 o x1 x2 x3 x4 = some res → Qr (some (vI res)) F → PR cX10_mustIn (zX10_mustIn Qr) 13 [(0, vR o), (1, vI x1), (2, vI x2), (3, vI x3), (4, vI x4)] [] F) : ∀ (o : Nat) (x1 : Int) (x3 : Int) (x4 : Int) (res : Int) (ho : isK o 10), fX10_mustIn_b73 F k13 o x1 x3 x4 = some res → Qr (some (vI res)) F → PR cX10_mustIn (zX10_mustIn Qr) 73 [(0, vR o), (1, vI x1), (3, vI x3), (4, vI x4)] [] F := by
  intro o x1 x3 x4 res ho h hq
  refine s_aload_n (j := 0) dX10_mustIn_73 rfl rfl ?_
  refine s_iload (j := 3) dX10_mustIn_74 rfl ?_
  refine s_iconst dX10_mustIn_76 (cin rfl) ?_
  obtain ⟨r1, hv2, h⟩ := bnd h
  refine s_callV (As := [vI x4, vI 0]) (rest := []) (r := (some (vI r1))) (F' := F) dX10_mustIn_77 (clX10_186 (Nat.le_of_ble_eq_true rfl) (Nat.le_of_ble_eq_true rfl)) ho rfl ⟨_, _, _, _, rfl, ho, hv2, rfl, rfl⟩ rfl (Nat.le_of_ble_eq_true rfl) ?_
  refine s_goto (tgt := 85) dX10_mustIn_80 rfl ?_
  refine s_istore_n (ls' := [(2, vI r1), (0, vR o), (1, vI x1), (3, vI x3), (4, vI x4)]) dX10_mustIn_85 rfl (Nat.le_of_ble_eq_true rfl) rfl ?_
  refine s_iinc (j := 4) dX10_mustIn_86 rfl (Nat.le_of_ble_eq_true rfl) rfl ?_
  refine s_goto (tgt := 13) dX10_mustIn_89 rfl ?_
  exact s_sub (ks := [2, 3, 1, 4, 0]) rfl (hk13 o x1 r1 x3 (xw (x4 + 1)) _ ho h hq)
theorem fX10_mustIn_b13_ok {Qr : Option PV → Mem → Prop}  (F : Mem) : ∀ (n : Nat) (o : Nat) (x1 : Int) (x2 : Int) (x3 : Int) (x4 : Int) (res : Int) (ho : isK o 10), fX10_mustIn_b13 F n o x1 x2 x3 x4 = some res → Qr (some (vI res)) F → PR cX10_mustIn (zX10_mustIn Qr) 13 [(0, vR o), (1, vI x1), (2, vI x2), (3, vI x3), (4, vI x4)] [] F := by
  intro n
  induction n with
  | zero => intro o x1 x2 x3 x4 res ho h hq; exact nomatch (show (none : Option _) = some _ from h)
  | succ n ih =>
    intro o x1 x2 x3 x4 res ho h hq
    refine s_iload (j := 4) dX10_mustIn_13 rfl ?_
    refine s_aload_n (j := 0) dX10_mustIn_15 rfl rfl ?_
    refine s_bipush dX10_mustIn_16 rfl (cin rfl) ?_
    obtain ⟨r1, hv2, h⟩ := bnd h
    refine s_callV (As := [vI 6]) (rest := [vI x4]) (r := (some (vI r1))) (F' := F) dX10_mustIn_18 (clX10_181 (Nat.le_of_ble_eq_true rfl) (Nat.le_of_ble_eq_true rfl)) ho rfl ⟨_, _, _, rfl, ho, hv2, rfl, rfl⟩ rfl (Nat.le_of_ble_eq_true rfl) ?_
    refine s_icmp_ge (tgt := 92) dX10_mustIn_21 rfl (fun hc3 => ?_) (fun hc3 => ?_)
    · have h := ifp hc3 h
      exact s_sub (ks := [0, 1, 2]) rfl (fX10_mustIn_b92_ok F o x1 x2 _ ho h hq)
    · have h := ifn hc3 h
      refine s_aload_n (j := 0) dX10_mustIn_24 rfl rfl ?_
      refine s_getI dX10_mustIn_25 flX10_51 ho ?_
      refine s_if_eq (tgt := 92) dX10_mustIn_28 rfl (fun hc4 => ?_) (fun hc4 => ?_)
      · have h := ifp hc4 h
        exact s_sub (ks := [0, 1, 2]) rfl (fX10_mustIn_b92_ok F o x1 x2 _ ho h hq)
      · have h := ifn hc4 h
        refine s_iload_n (j := 3) dX10_mustIn_31 rfl rfl ?_
        refine s_aload_n (j := 0) dX10_mustIn_32 rfl rfl ?_
        refine s_iload (j := 4) dX10_mustIn_33 rfl ?_
        refine s_iconst dX10_mustIn_35 (cin rfl) ?_
        obtain ⟨r5, hv6, h⟩ := bnd h
        refine s_callV (As := [vI x4, vI 1]) (rest := [vI x3]) (r := (some (vI r5))) (F' := F) dX10_mustIn_36 (clX10_186 (Nat.le_of_ble_eq_true rfl) (Nat.le_of_ble_eq_true rfl)) ho rfl ⟨_, _, _, _, rfl, ho, hv6, rfl, rfl⟩ rfl (Nat.le_of_ble_eq_true rfl) ?_
        refine s_aload_n (j := 0) dX10_mustIn_39 rfl rfl ?_
        refine s_iload (j := 4) dX10_mustIn_40 rfl ?_
        refine s_iconst dX10_mustIn_42 (cin rfl) ?_
        obtain ⟨r7, hv8, h⟩ := bnd h
        refine s_callV (As := [vI x4, vI 2]) (rest := [vI r5, vI x3]) (r := (some (vI r7))) (F' := F) dX10_mustIn_43 (clX10_186 (Nat.le_of_ble_eq_true rfl) (Nat.le_of_ble_eq_true rfl)) ho rfl ⟨_, _, _, _, rfl, ho, hv8, rfl, rfl⟩ rfl (Nat.le_of_ble_eq_true rfl) ?_
        refine s_iconst dX10_mustIn_46 (cin rfl) ?_
        refine s_isub dX10_mustIn_47 ?_
        refine s_callS (As := [vI x3, vI r5, vI (xw (r7 - 1))]) (rest := []) (r := (some (vI (fX10_isIn x3 r5 (xw (r7 - 1)))))) (F' := F) dX10_mustIn_48 (clX10_115 (Nat.le_of_ble_eq_true rfl) (Nat.le_of_ble_eq_true rfl)) rfl ⟨_, _, _, _, rfl, rfl, rfl, rfl⟩ rfl (Nat.le_of_ble_eq_true rfl) ?_
        refine s_if_ne (tgt := 57) dX10_mustIn_51 rfl (fun hc9 => ?_) (fun hc9 => ?_)
        · have h := ifp hc9 h
          refine s_iload_n (j := 2) dX10_mustIn_57 rfl rfl ?_
          refine s_iconst dX10_mustIn_58 (cin rfl) ?_
          refine s_icmp_eq (tgt := 73) dX10_mustIn_59 rfl (fun hc10 => ?_) (fun hc10 => ?_)
          · have h := ifp hc10 h
            exact s_sub (ks := [0, 1, 3, 4]) rfl (fX10_mustIn_b73_ok F (fX10_mustIn_b13 F n) ih o x1 x3 x4 _ ho h hq)
          · have h := ifn hc10 h
            refine s_iload_n (j := 2) dX10_mustIn_62 rfl rfl ?_
            refine s_aload_n (j := 0) dX10_mustIn_63 rfl rfl ?_
            refine s_iload (j := 4) dX10_mustIn_64 rfl ?_
            refine s_iconst dX10_mustIn_66 (cin rfl) ?_
            obtain ⟨r11, hv12, h⟩ := bnd h
            refine s_callV (As := [vI x4, vI 0]) (rest := [vI x2]) (r := (some (vI r11))) (F' := F) dX10_mustIn_67 (clX10_186 (Nat.le_of_ble_eq_true rfl) (Nat.le_of_ble_eq_true rfl)) ho rfl ⟨_, _, _, _, rfl, ho, hv12, rfl, rfl⟩ rfl (Nat.le_of_ble_eq_true rfl) ?_
            refine s_icmp_ne (tgt := 83) dX10_mustIn_70 rfl (fun hc13 => ?_) (fun hc13 => ?_)
            · have h := ifp hc13 h
              refine s_bipush dX10_mustIn_83 rfl (cin rfl) ?_
              refine s_istore_n (ls' := [(2, vI (-2)), (0, vR o), (1, vI x1), (3, vI x3), (4, vI x4)]) dX10_mustIn_85 rfl (Nat.le_of_ble_eq_true rfl) rfl ?_
              refine s_iinc (j := 4) dX10_mustIn_86 rfl (Nat.le_of_ble_eq_true rfl) rfl ?_
              refine s_goto (tgt := 13) dX10_mustIn_89 rfl ?_
              exact s_sub (ks := [2, 3, 1, 4, 0]) rfl (ih o x1 (-2) x3 (xw (x4 + 1)) _ ho h hq)
            · have h := ifn hc13 h
              exact s_sub (ks := [0, 1, 3, 4]) rfl (fX10_mustIn_b73_ok F (fX10_mustIn_b13 F n) ih o x1 x3 x4 _ ho h hq)
        · have h := ifn hc9 h
          refine s_goto (tgt := 86) dX10_mustIn_54 rfl ?_
          refine s_iinc (ls' := [(4, vI (xw (x4 + 1))), (0, vR o), (1, vI x1), (2, vI x2), (3, vI x3)]) (j := 4) dX10_mustIn_86 rfl (Nat.le_of_ble_eq_true rfl) rfl ?_
          refine s_goto (tgt := 13) dX10_mustIn_89 rfl ?_
          exact s_sub (ks := [1, 2, 3, 4, 0]) rfl (ih o x1 x2 x3 (xw (x4 + 1)) _ ho h hq)
theorem fX10_mustIn_ok {Qr : Option PV → Mem → Prop} : ∀ (o : Nat) (x1 : Int) (F : Mem) (res : Int) (ho : isK o 10), fX10_mustIn o x1 F = some res → Qr (some (vI res)) F → PR cX10_mustIn (zX10_mustIn Qr) 0 [(0, vR o), (1, vI x1)] [] F := by
  intro o x1 F res ho h hq
  refine s_iconst dX10_mustIn_0 (cin rfl) ?_
  refine s_istore_n (ls' := [(2, vI (-1)), (0, vR o), (1, vI x1)]) dX10_mustIn_1 rfl (Nat.le_of_ble_eq_true rfl) rfl ?_
  refine s_iload_n (j := 2) dX10_mustIn_2 rfl rfl ?_
  refine s_aload_n (j := 1) dX10_mustIn_3 rfl rfl ?_
  refine s_iconst dX10_mustIn_4 (cin rfl) ?_
  obtain ⟨r1, hv2, h⟩ := bnd h
  refine s_callV (As := [vI 0]) (rest := [vI x1]) (r := (some (vI r1))) (F' := F) dX10_mustIn_5 (clX10_181 (Nat.le_of_ble_eq_true rfl) (Nat.le_of_ble_eq_true rfl)) ho rfl ⟨_, _, _, rfl, ho, hv2, rfl, rfl⟩ rfl (Nat.le_of_ble_eq_true rfl) ?_
  obtain ⟨hd3, h⟩ := gdn h
  refine s_irem dX10_mustIn_8 hd3 ?_
  refine s_istore_n dX10_mustIn_9 rfl (Nat.le_of_ble_eq_true rfl) rfl ?_
  refine s_iconst dX10_mustIn_10 (cin rfl) ?_
  refine s_istore (ls' := [(4, vI 0), (3, vI (Int.tmod x1 r1)), (2, vI (-1)), (0, vR o), (1, vI x1)]) dX10_mustIn_11 (Nat.le_of_ble_eq_true rfl) rfl ?_
  exact s_sub (ks := [3, 4, 2, 1, 0]) rfl (fX10_mustIn_b13_ok F FU o x1 (-1) (Int.tmod x1 r1) 0 _ ho h hq)
def gX10_mustIn : XG := fun As F r F' => ∃ o : Nat, ∃ x1 : Int, ∃ res : Int, As = [vR o, vI x1] ∧ isK o 10 ∧ fX10_mustIn o x1 F = some res ∧ r = some (vI res) ∧ F' = F
theorem ctX10_mustIn : xCT yX10_mustIn cX10_mustIn 5 (some FieldType.int) 1 22 gX10_mustIn := xmet (by decide +kernel) (fun As F r F' hg => by obtain ⟨o, x1, res, rfl, ho, h, rfl, rfl⟩ := hg; exact Nat.le_of_ble_eq_true rfl) (fun As F r F' hg => by obtain ⟨o, x1, res, rfl, ho, h, rfl, rfl⟩ := hg; exact fX10_mustIn_ok o x1 _ _ ho h ⟨rfl, rfl⟩)
theorem mcX10_mustIn : Cond.code yX10_mustIn cX10_mustIn 5 (some FieldType.int) ∈ xw_T ∧ Cond.initialized yX10_mustIn.cls ∈ xw_T ∧ Cond.instanceMethod yX10_mustIn ∈ xw_T ∧ Cond.selects yX10_mustIn.cls yX10_mustIn yX10_mustIn ∈ xw_T := ⟨(xinT 1765 (by decide +kernel) (by decide +kernel)), (xinT 127 (by decide +kernel) (by decide +kernel)), (xinT 1764 (by decide +kernel) (by decide +kernel)), (xinT 88 (by decide +kernel) (by decide +kernel))⟩
theorem clX10_312 {fr lo : Nat} (h1 : 1 + 1 ≤ fr) (h2 : 8 + (5 + 11) + 22 ≤ lo) : xCall RX10 fr lo 0 312 10 1 gX10_mustIn := ⟨_, _, _, _, _, _, ctX10_mustIn, h1, h2, mcX10_mustIn.1, (xinT 1762 (by decide +kernel) (by decide +kernel)), mcX10_mustIn.2.1, ⟨by decide +kernel, by decide +kernel, by decide +kernel⟩, by rw [if_pos rfl]; exact ⟨mcX10_mustIn.2.2.1, mcX10_mustIn.2.2.2, _, _, rfl⟩⟩
theorem dX10_gainIn_0 : decode cX10_gainIn 0 = .ok (.aload_n 0, 1) := by decide +kernel
theorem dX10_gainIn_1 : decode cX10_gainIn 1 = .ok (.iload_n 1, 1) := by decide +kernel
theorem dX10_gainIn_2 : decode cX10_gainIn 2 = .ok (.invokevirtual 202, 3) := by decide +kernel
theorem dX10_gainIn_5 : decode cX10_gainIn 5 = .ok (.istore_n 3, 1) := by decide +kernel
theorem dX10_gainIn_6 : decode cX10_gainIn 6 = .ok (.iload_n 2, 1) := by decide +kernel
theorem dX10_gainIn_7 : decode cX10_gainIn 7 = .ok (.aload_n 0, 1) := by decide +kernel
theorem dX10_gainIn_8 : decode cX10_gainIn 8 = .ok (.iconst 0, 1) := by decide +kernel
theorem dX10_gainIn_9 : decode cX10_gainIn 9 = .ok (.invokevirtual 181, 3) := by decide +kernel
theorem dX10_gainIn_12 : decode cX10_gainIn 12 = .ok (.irem, 1) := by decide +kernel
theorem dX10_gainIn_13 : decode cX10_gainIn 13 = .ok (.istore 4, 2) := by decide +kernel
theorem dX10_gainIn_15 : decode cX10_gainIn 15 = .ok (.iload_n 3, 1) := by decide +kernel
theorem dX10_gainIn_16 : decode cX10_gainIn 16 = .ok (.ifCond .eq 51, 3) := by decide +kernel
theorem dX10_gainIn_19 : decode cX10_gainIn 19 = .ok (.aload_n 0, 1) := by decide +kernel
theorem dX10_gainIn_20 : decode cX10_gainIn 20 = .ok (.getfield 285, 3) := by decide +kernel
theorem dX10_gainIn_23 : decode cX10_gainIn 23 = .ok (.ifCond .eq 8, 3) := by decide +kernel
theorem dX10_gainIn_26 : decode cX10_gainIn 26 = .ok (.iload_n 3, 1) := by decide +kernel
theorem dX10_gainIn_27 : decode cX10_gainIn 27 = .ok (.iconst 1, 1) := by decide +kernel
theorem dX10_gainIn_28 : decode cX10_gainIn 28 = .ok (.if_icmp .ne 39, 3) := by decide +kernel
theorem dX10_gainIn_31 : decode cX10_gainIn 31 = .ok (.aload_n 0, 1) := by decide +kernel
theorem dX10_gainIn_32 : decode cX10_gainIn 32 = .ok (.iload_n 1, 1) := by decide +kernel
theorem dX10_gainIn_33 : decode cX10_gainIn 33 = .ok (.iconst 1, 1) := by decide +kernel
theorem dX10_gainIn_34 : decode cX10_gainIn 34 = .ok (.iload 4, 2) := by decide +kernel
theorem dX10_gainIn_36 : decode cX10_gainIn 36 = .ok (.invokevirtual 215, 3) := by decide +kernel
theorem dX10_gainIn_39 : decode cX10_gainIn 39 = .ok (.ifCond .eq 28, 3) := by decide +kernel
theorem dX10_gainIn_42 : decode cX10_gainIn 42 = .ok (.aload_n 0, 1) := by decide +kernel
theorem dX10_gainIn_43 : decode cX10_gainIn 43 = .ok (.iload_n 1, 1) := by decide +kernel
theorem dX10_gainIn_44 : decode cX10_gainIn 44 = .ok (.aload_n 0, 1) := by decide +kernel
theorem dX10_gainIn_45 : decode cX10_gainIn 45 = .ok (.getfield 303, 3) := by decide +kernel
theorem dX10_gainIn_48 : decode cX10_gainIn 48 = .ok (.iload_n 2, 1) := by decide +kernel
theorem dX10_gainIn_49 : decode cX10_gainIn 49 = .ok (.aload_n 0, 1) := by decide +kernel
theorem dX10_gainIn_50 : decode cX10_gainIn 50 = .ok (.iconst 0, 1) := by decide +kernel
theorem dX10_gainIn_51 : decode cX10_gainIn 51 = .ok (.invokevirtual 181, 3) := by decide +kernel
theorem dX10_gainIn_54 : decode cX10_gainIn 54 = .ok (.idiv, 1) := by decide +kernel
theorem dX10_gainIn_55 : decode cX10_gainIn 55 = .ok (.iadd, 1) := by decide +kernel
theorem dX10_gainIn_56 : decode cX10_gainIn 56 = .ok (.bipush 7, 2) := by decide +kernel
theorem dX10_gainIn_58 : decode cX10_gainIn 58 = .ok (.irem, 1) := by decide +kernel
theorem dX10_gainIn_59 : decode cX10_gainIn 59 = .ok (.iload 4, 2) := by decide +kernel
theorem dX10_gainIn_61 : decode cX10_gainIn 61 = .ok (.invokevirtual 279, 3) := by decide +kernel
theorem dX10_gainIn_64 : decode cX10_gainIn 64 = .ok (.ifCond .ne 5, 3) := by decide +kernel
theorem dX10_gainIn_67 : decode cX10_gainIn 67 = .ok (.iconst 0, 1) := by decide +kernel
theorem dX10_gainIn_68 : decode cX10_gainIn 68 = .ok (.ireturn, 1) := by decide +kernel
theorem dX10_gainIn_69 : decode cX10_gainIn 69 = .ok (.iload_n 2, 1) := by decide +kernel
theorem dX10_gainIn_70 : decode cX10_gainIn 70 = .ok (.aload_n 0, 1) := by decide +kernel
theorem dX10_gainIn_71 : decode cX10_gainIn 71 = .ok (.getfield 288, 3) := by decide +kernel
theorem dX10_gainIn_74 : decode cX10_gainIn 74 = .ok (.aload_n 0, 1) := by decide +kernel
theorem dX10_gainIn_75 : decode cX10_gainIn 75 = .ok (.getfield 291, 3) := by decide +kernel
theorem dX10_gainIn_78 : decode cX10_gainIn 78 = .ok (.iconst 1, 1) := by decide +kernel
theorem dX10_gainIn_79 : decode cX10_gainIn 79 = .ok (.isub, 1) := by decide +kernel
theorem dX10_gainIn_80 : decode cX10_gainIn 80 = .ok (.invokestatic 115, 3) := by decide +kernel
theorem dX10_gainIn_83 : decode cX10_gainIn 83 = .ok (.ifCond .eq 23, 3) := by decide +kernel
theorem dX10_gainIn_86 : decode cX10_gainIn 86 = .ok (.aload_n 0, 1) := by decide +kernel
theorem dX10_gainIn_87 : decode cX10_gainIn 87 = .ok (.getfield 306, 3) := by decide +kernel
theorem dX10_gainIn_90 : decode cX10_gainIn 90 = .ok (.iconst (-1), 1) := by decide +kernel
theorem dX10_gainIn_91 : decode cX10_gainIn 91 = .ok (.if_icmp .eq 11, 3) := by decide +kernel
theorem dX10_gainIn_94 : decode cX10_gainIn 94 = .ok (.aload_n 0, 1) := by decide +kernel
theorem dX10_gainIn_95 : decode cX10_gainIn 95 = .ok (.getfield 306, 3) := by decide +kernel
theorem dX10_gainIn_98 : decode cX10_gainIn 98 = .ok (.iload_n 1, 1) := by decide +kernel
theorem dX10_gainIn_99 : decode cX10_gainIn 99 = .ok (.if_icmp .ne 7, 3) := by decide +kernel
theorem dX10_gainIn_102 : decode cX10_gainIn 102 = .ok (.iconst 1, 1) := by decide +kernel
theorem dX10_gainIn_103 : decode cX10_gainIn 103 = .ok (.goto 4, 3) := by decide +kernel
theorem dX10_gainIn_106 : decode cX10_gainIn 106 = .ok (.iconst 0, 1) := by decide +kernel
theorem dX10_gainIn_107 : decode cX10_gainIn 107 = .ok (.istore 5, 2) := by decide +kernel
theorem dX10_gainIn_109 : decode cX10_gainIn 109 = .ok (.iload 5, 2) := by decide +kernel
theorem dX10_gainIn_111 : decode cX10_gainIn 111 = .ok (.ifCond .eq 7, 3) := by decide +kernel
theorem dX10_gainIn_114 : decode cX10_gainIn 114 = .ok (.iconst 0, 1) := by decide +kernel
theorem dX10_gainIn_115 : decode cX10_gainIn 115 = .ok (.goto 12, 3) := by decide +kernel
theorem dX10_gainIn_118 : decode cX10_gainIn 118 = .ok (.aload_n 0, 1) := by decide +kernel
theorem dX10_gainIn_119 : decode cX10_gainIn 119 = .ok (.iload_n 1, 1) := by decide +kernel
theorem dX10_gainIn_120 : decode cX10_gainIn 120 = .ok (.aload_n 0, 1) := by decide +kernel
theorem dX10_gainIn_121 : decode cX10_gainIn 121 = .ok (.getfield 282, 3) := by decide +kernel
theorem dX10_gainIn_124 : decode cX10_gainIn 124 = .ok (.invokevirtual 219, 3) := by decide +kernel
theorem dX10_gainIn_127 : decode cX10_gainIn 127 = .ok (.ireturn, 1) := by decide +kernel
def zX10_gainIn (Qr : Option PV → Mem → Prop) : XZ := (RX10, 3, 67, 6, some FieldType.int, Qr)
noncomputable def fX10_gainIn_b107 (F : Mem) (o : Nat) (x1 : Int) (s0 : Int) : Option Int :=
  if s0 = 0 then
    (fX10_rateOf o x1 (F o 28) F).bind fun r2 =>
    some r2
  else
    some 0
noncomputable def fX10_gainIn_b31 (F : Mem) (o : Nat) (x1 : Int) (x2 : Int) (x4 : Int) : Option Int :=
  (fX10_sees o x1 1 x4 F).bind fun r1 =>
  if r1 = 0 then
    some 0
  else
    (fX10_of o 0 F).bind fun r4 =>
    if r4 = 0 then none else
    (fX10_may o x1 (Int.tmod (xw ((F o 26) + (xw (Int.tdiv x2 r4)))) 7) x4 F).bind fun r7 =>
    if r7 ≠ 0 then
      if (fX10_isIn x2 (F o 36) (xw ((F o 37) - 1))) = 0 then
        fX10_gainIn_b107 F o x1 0
      else
        if (F o 35) = (-1) then
          fX10_gainIn_b107 F o x1 1
        else
          if (F o 35) ≠ x1 then
            fX10_gainIn_b107 F o x1 0
          else
            fX10_gainIn_b107 F o x1 1
    else
      some 0
noncomputable def fX10_gainIn (o : Nat) (x1 : Int) (x2 : Int) (F : Mem) : Option Int :=
  (fX10_kindOf o x1 F).bind fun r1 =>
  (fX10_of o 0 F).bind fun r3 =>
  if r3 = 0 then none else
  if r1 = 0 then
    some 0
  else
    if (F o 30) = 0 then
      fX10_gainIn_b31 F o x1 x2 (Int.tmod x2 r3)
    else
      if r1 ≠ 1 then
        some 0
      else
        fX10_gainIn_b31 F o x1 x2 (Int.tmod x2 r3)
theorem fX10_gainIn_b107_ok {Qr : Option PV → Mem → Prop}  (F : Mem) : ∀ (o : Nat) (x1 : Int) (s0 : Int) (res : Int) (ho : isK o 10), fX10_gainIn_b107 F o x1 s0 = some res → Qr (some (vI res)) F → PR cX10_gainIn (zX10_gainIn Qr) 107 [(0, vR o), (1, vI x1)] [vI s0] F := by
  intro o x1 s0 res ho h hq
  refine s_istore (ls' := [(5, vI s0), (0, vR o), (1, vI x1)]) dX10_gainIn_107 (Nat.le_of_ble_eq_true rfl) rfl ?_
  refine s_iload (j := 0) dX10_gainIn_109 rfl ?_
  refine s_if_eq (tgt := 118) dX10_gainIn_111 rfl (fun hc1 => ?_) (fun hc1 => ?_)
  · have h := ifp hc1 h
    refine s_aload_n (j := 1) dX10_gainIn_118 rfl rfl ?_
    refine s_iload_n (j := 2) dX10_gainIn_119 rfl rfl ?_
    refine s_aload_n (j := 1) dX10_gainIn_120 rfl rfl ?_
    refine s_getI dX10_gainIn_121 flX10_282 ho ?_
    obtain ⟨r2, hv3, h⟩ := bnd h
    refine s_callV (As := [vI x1, vI (F o 28)]) (rest := []) (r := (some (vI r2))) (F' := F) dX10_gainIn_124 (clX10_219 (Nat.le_of_ble_eq_true rfl) (Nat.le_of_ble_eq_true rfl)) ho rfl ⟨_, _, _, _, rfl, ho, hv3, rfl, rfl⟩ rfl (Nat.le_of_ble_eq_true rfl) ?_
    have h := Option.some.inj h
    subst h
    exact s_ireturn dX10_gainIn_127 rfl hq
  · have h := ifn hc1 h
    refine s_iconst dX10_gainIn_114 (cin rfl) ?_
    refine s_goto (tgt := 127) dX10_gainIn_115 rfl ?_
    have h := Option.some.inj h
    subst h
    exact s_ireturn dX10_gainIn_127 rfl hq
theorem fX10_gainIn_b31_ok {Qr : Option PV → Mem → Prop}  (F : Mem) : ∀ (o : Nat) (x1 : Int) (x2 : Int) (x4 : Int) (res : Int) (ho : isK o 10), fX10_gainIn_b31 F o x1 x2 x4 = some res → Qr (some (vI res)) F → PR cX10_gainIn (zX10_gainIn Qr) 31 [(0, vR o), (1, vI x1), (2, vI x2), (4, vI x4)] [] F := by
  intro o x1 x2 x4 res ho h hq
  refine s_aload_n (j := 0) dX10_gainIn_31 rfl rfl ?_
  refine s_iload_n (j := 1) dX10_gainIn_32 rfl rfl ?_
  refine s_iconst dX10_gainIn_33 (cin rfl) ?_
  refine s_iload (j := 3) dX10_gainIn_34 rfl ?_
  obtain ⟨r1, hv2, h⟩ := bnd h
  refine s_callV (As := [vI x1, vI 1, vI x4]) (rest := []) (r := (some (vI r1))) (F' := F) dX10_gainIn_36 (clX10_215 (Nat.le_of_ble_eq_true rfl) (Nat.le_of_ble_eq_true rfl)) ho rfl ⟨_, _, _, _, _, rfl, ho, hv2, rfl, rfl⟩ rfl (Nat.le_of_ble_eq_true rfl) ?_
  refine s_if_eq (tgt := 67) dX10_gainIn_39 rfl (fun hc3 => ?_) (fun hc3 => ?_)
  · have h := ifp hc3 h
    refine s_iconst dX10_gainIn_67 (cin rfl) ?_
    have h := Option.some.inj h
    subst h
    exact s_ireturn dX10_gainIn_68 rfl hq
  · have h := ifn hc3 h
    refine s_aload_n (j := 0) dX10_gainIn_42 rfl rfl ?_
    refine s_iload_n (j := 1) dX10_gainIn_43 rfl rfl ?_
    refine s_aload_n (j := 0) dX10_gainIn_44 rfl rfl ?_
    refine s_getI dX10_gainIn_45 flX10_303 ho ?_
    refine s_iload_n (j := 2) dX10_gainIn_48 rfl rfl ?_
    refine s_aload_n (j := 0) dX10_gainIn_49 rfl rfl ?_
    refine s_iconst dX10_gainIn_50 (cin rfl) ?_
    obtain ⟨r4, hv5, h⟩ := bnd h
    refine s_callV (As := [vI 0]) (rest := [vI x2, vI (F o 26), vI x1, vR o]) (r := (some (vI r4))) (F' := F) dX10_gainIn_51 (clX10_181 (Nat.le_of_ble_eq_true rfl) (Nat.le_of_ble_eq_true rfl)) ho rfl ⟨_, _, _, rfl, ho, hv5, rfl, rfl⟩ rfl (Nat.le_of_ble_eq_true rfl) ?_
    obtain ⟨hd6, h⟩ := gdn h
    refine s_idiv dX10_gainIn_54 hd6 ?_
    refine s_iadd dX10_gainIn_55 ?_
    refine s_bipush dX10_gainIn_56 rfl (cin rfl) ?_
    refine s_irem dX10_gainIn_58 (by decide) ?_
    refine s_iload (j := 3) dX10_gainIn_59 rfl ?_
    obtain ⟨r7, hv8, h⟩ := bnd h
    refine s_callV (As := [vI x1, vI (Int.tmod (xw ((F o 26) + (xw (Int.tdiv x2 r4)))) 7), vI x4]) (rest := []) (r := (some (vI r7))) (F' := F) dX10_gainIn_61 (clX10_279 (Nat.le_of_ble_eq_true rfl) (Nat.le_of_ble_eq_true rfl)) ho rfl ⟨_, _, _, _, _, rfl, ho, hv8, rfl, rfl⟩ rfl (Nat.le_of_ble_eq_true rfl) ?_
    refine s_if_ne (tgt := 69) dX10_gainIn_64 rfl (fun hc9 => ?_) (fun hc9 => ?_)
    · have h := ifp hc9 h
      refine s_iload_n (j := 2) dX10_gainIn_69 rfl rfl ?_
      refine s_aload_n (j := 0) dX10_gainIn_70 rfl rfl ?_
      refine s_getI dX10_gainIn_71 flX10_288 ho ?_
      refine s_aload_n (j := 0) dX10_gainIn_74 rfl rfl ?_
      refine s_getI dX10_gainIn_75 flX10_291 ho ?_
      refine s_iconst dX10_gainIn_78 (cin rfl) ?_
      refine s_isub dX10_gainIn_79 ?_
      refine s_callS (As := [vI x2, vI (F o 36), vI (xw ((F o 37) - 1))]) (rest := []) (r := (some (vI (fX10_isIn x2 (F o 36) (xw ((F o 37) - 1)))))) (F' := F) dX10_gainIn_80 (clX10_115 (Nat.le_of_ble_eq_true rfl) (Nat.le_of_ble_eq_true rfl)) rfl ⟨_, _, _, _, rfl, rfl, rfl, rfl⟩ rfl (Nat.le_of_ble_eq_true rfl) ?_
      refine s_if_eq (tgt := 106) dX10_gainIn_83 rfl (fun hc10 => ?_) (fun hc10 => ?_)
      · have h := ifp hc10 h
        refine s_iconst dX10_gainIn_106 (cin rfl) ?_
        exact s_sub (ks := [0, 1]) rfl (fX10_gainIn_b107_ok F o x1 0 _ ho h hq)
      · have h := ifn hc10 h
        refine s_aload_n (j := 0) dX10_gainIn_86 rfl rfl ?_
        refine s_getI dX10_gainIn_87 flX10_306 ho ?_
        refine s_iconst dX10_gainIn_90 (cin rfl) ?_
        refine s_icmp_eq (tgt := 102) dX10_gainIn_91 rfl (fun hc11 => ?_) (fun hc11 => ?_)
        · have h := ifp hc11 h
          refine s_iconst dX10_gainIn_102 (cin rfl) ?_
          refine s_goto (tgt := 107) dX10_gainIn_103 rfl ?_
          exact s_sub (ks := [0, 1]) rfl (fX10_gainIn_b107_ok F o x1 1 _ ho h hq)
        · have h := ifn hc11 h
          refine s_aload_n (j := 0) dX10_gainIn_94 rfl rfl ?_
          refine s_getI dX10_gainIn_95 flX10_306 ho ?_
          refine s_iload_n (j := 1) dX10_gainIn_98 rfl rfl ?_
          refine s_icmp_ne (tgt := 106) dX10_gainIn_99 rfl (fun hc12 => ?_) (fun hc12 => ?_)
          · have h := ifp hc12 h
            refine s_iconst dX10_gainIn_106 (cin rfl) ?_
            exact s_sub (ks := [0, 1]) rfl (fX10_gainIn_b107_ok F o x1 0 _ ho h hq)
          · have h := ifn hc12 h
            refine s_iconst dX10_gainIn_102 (cin rfl) ?_
            refine s_goto (tgt := 107) dX10_gainIn_103 rfl ?_
            exact s_sub (ks := [0, 1]) rfl (fX10_gainIn_b107_ok F o x1 1 _ ho h hq)
    · have h := ifn hc9 h
      refine s_iconst dX10_gainIn_67 (cin rfl) ?_
      have h := Option.some.inj h
      subst h
      exact s_ireturn dX10_gainIn_68 rfl hq
theorem fX10_gainIn_ok {Qr : Option PV → Mem → Prop} : ∀ (o : Nat) (x1 : Int) (x2 : Int) (F : Mem) (res : Int) (ho : isK o 10), fX10_gainIn o x1 x2 F = some res → Qr (some (vI res)) F → PR cX10_gainIn (zX10_gainIn Qr) 0 [(0, vR o), (1, vI x1), (2, vI x2)] [] F := by
  intro o x1 x2 F res ho h hq
  refine s_aload_n (j := 0) dX10_gainIn_0 rfl rfl ?_
  refine s_iload_n (j := 1) dX10_gainIn_1 rfl rfl ?_
  obtain ⟨r1, hv2, h⟩ := bnd h
  refine s_callV (As := [vI x1]) (rest := []) (r := (some (vI r1))) (F' := F) dX10_gainIn_2 (clX10_202 (Nat.le_of_ble_eq_true rfl) (Nat.le_of_ble_eq_true rfl)) ho rfl ⟨_, _, _, rfl, ho, hv2, rfl, rfl⟩ rfl (Nat.le_of_ble_eq_true rfl) ?_
  refine s_istore_n (ls' := [(3, vI r1), (0, vR o), (1, vI x1), (2, vI x2)]) dX10_gainIn_5 rfl (Nat.le_of_ble_eq_true rfl) rfl ?_
  refine s_iload_n (j := 3) dX10_gainIn_6 rfl rfl ?_
  refine s_aload_n (j := 1) dX10_gainIn_7 rfl rfl ?_
  refine s_iconst dX10_gainIn_8 (cin rfl) ?_
  obtain ⟨r3, hv4, h⟩ := bnd h
  refine s_callV (As := [vI 0]) (rest := [vI x2]) (r := (some (vI r3))) (F' := F) dX10_gainIn_9 (clX10_181 (Nat.le_of_ble_eq_true rfl) (Nat.le_of_ble_eq_true rfl)) ho rfl ⟨_, _, _, rfl, ho, hv4, rfl, rfl⟩ rfl (Nat.le_of_ble_eq_true rfl) ?_
  obtain ⟨hd5, h⟩ := gdn h
  refine s_irem dX10_gainIn_12 hd5 ?_
  refine s_istore dX10_gainIn_13 (Nat.le_of_ble_eq_true rfl) rfl ?_
  refine s_iload_n (j := 1) dX10_gainIn_15 rfl rfl ?_
  refine s_if_eq (tgt := 67) dX10_gainIn_16 rfl (fun hc6 => ?_) (fun hc6 => ?_)
  · have h := ifp hc6 h
    refine s_iconst dX10_gainIn_67 (cin rfl) ?_
    have h := Option.some.inj h
    subst h
    exact s_ireturn dX10_gainIn_68 rfl hq
  · have h := ifn hc6 h
    refine s_aload_n (j := 2) dX10_gainIn_19 rfl rfl ?_
    refine s_getI dX10_gainIn_20 flX10_285 ho ?_
    refine s_if_eq (tgt := 31) dX10_gainIn_23 rfl (fun hc7 => ?_) (fun hc7 => ?_)
    · have h := ifp hc7 h
      exact s_sub (ks := [2, 3, 4, 0]) rfl (fX10_gainIn_b31_ok F o x1 x2 (Int.tmod x2 r3) _ ho h hq)
    · have h := ifn hc7 h
      refine s_iload_n (j := 1) dX10_gainIn_26 rfl rfl ?_
      refine s_iconst dX10_gainIn_27 (cin rfl) ?_
      refine s_icmp_ne (tgt := 67) dX10_gainIn_28 rfl (fun hc8 => ?_) (fun hc8 => ?_)
      · have h := ifp hc8 h
        refine s_iconst dX10_gainIn_67 (cin rfl) ?_
        have h := Option.some.inj h
        subst h
        exact s_ireturn dX10_gainIn_68 rfl hq
      · have h := ifn hc8 h
        exact s_sub (ks := [2, 3, 4, 0]) rfl (fX10_gainIn_b31_ok F o x1 x2 (Int.tmod x2 r3) _ ho h hq)
def gX10_gainIn : XG := fun As F r F' => ∃ o : Nat, ∃ x1 : Int, ∃ x2 : Int, ∃ res : Int, As = [vR o, vI x1, vI x2] ∧ isK o 10 ∧ fX10_gainIn o x1 x2 F = some res ∧ r = some (vI res) ∧ F' = F
theorem ctX10_gainIn : xCT yX10_gainIn cX10_gainIn 6 (some FieldType.int) 3 67 gX10_gainIn := xmet (by decide +kernel) (fun As F r F' hg => by obtain ⟨o, x1, x2, res, rfl, ho, h, rfl, rfl⟩ := hg; exact Nat.le_of_ble_eq_true rfl) (fun As F r F' hg => by obtain ⟨o, x1, x2, res, rfl, ho, h, rfl, rfl⟩ := hg; exact fX10_gainIn_ok o x1 x2 _ _ ho h ⟨rfl, rfl⟩)
theorem mcX10_gainIn : Cond.code yX10_gainIn cX10_gainIn 6 (some FieldType.int) ∈ xw_T ∧ Cond.initialized yX10_gainIn.cls ∈ xw_T ∧ Cond.instanceMethod yX10_gainIn ∈ xw_T ∧ Cond.selects yX10_gainIn.cls yX10_gainIn yX10_gainIn ∈ xw_T := ⟨(xinT 1769 (by decide +kernel) (by decide +kernel)), (xinT 127 (by decide +kernel) (by decide +kernel)), (xinT 1768 (by decide +kernel) (by decide +kernel)), (xinT 89 (by decide +kernel) (by decide +kernel))⟩
theorem clX10_319 {fr lo : Nat} (h1 : 3 + 1 ≤ fr) (h2 : 8 + (6 + 11) + 67 ≤ lo) : xCall RX10 fr lo 0 319 10 2 gX10_gainIn := ⟨_, _, _, _, _, _, ctX10_gainIn, h1, h2, mcX10_gainIn.1, (xinT 1766 (by decide +kernel) (by decide +kernel)), mcX10_gainIn.2.1, ⟨by decide +kernel, by decide +kernel, by decide +kernel⟩, by rw [if_pos rfl]; exact ⟨mcX10_gainIn.2.2.1, mcX10_gainIn.2.2.2, _, _, rfl⟩⟩
theorem dX10_isBetter_0 : decode cX10_isBetter 0 = .ok (.iload_n 1, 1) := by decide +kernel
theorem dX10_isBetter_1 : decode cX10_isBetter 1 = .ok (.aload_n 0, 1) := by decide +kernel
theorem dX10_isBetter_2 : decode cX10_isBetter 2 = .ok (.getfield 45, 3) := by decide +kernel
theorem dX10_isBetter_5 : decode cX10_isBetter 5 = .ok (.iload_n 3, 1) := by decide +kernel
theorem dX10_isBetter_6 : decode cX10_isBetter 6 = .ok (.iaload, 1) := by decide +kernel
theorem dX10_isBetter_7 : decode cX10_isBetter 7 = .ok (.if_icmp .gt 23, 3) := by decide +kernel
theorem dX10_isBetter_10 : decode cX10_isBetter 10 = .ok (.iload_n 1, 1) := by decide +kernel
theorem dX10_isBetter_11 : decode cX10_isBetter 11 = .ok (.aload_n 0, 1) := by decide +kernel
theorem dX10_isBetter_12 : decode cX10_isBetter 12 = .ok (.getfield 45, 3) := by decide +kernel
theorem dX10_isBetter_15 : decode cX10_isBetter 15 = .ok (.iload_n 3, 1) := by decide +kernel
theorem dX10_isBetter_16 : decode cX10_isBetter 16 = .ok (.iaload, 1) := by decide +kernel
theorem dX10_isBetter_17 : decode cX10_isBetter 17 = .ok (.if_icmp .ne 17, 3) := by decide +kernel
theorem dX10_isBetter_20 : decode cX10_isBetter 20 = .ok (.iload_n 2, 1) := by decide +kernel
theorem dX10_isBetter_21 : decode cX10_isBetter 21 = .ok (.aload_n 0, 1) := by decide +kernel
theorem dX10_isBetter_22 : decode cX10_isBetter 22 = .ok (.getfield 48, 3) := by decide +kernel
theorem dX10_isBetter_25 : decode cX10_isBetter 25 = .ok (.iload_n 3, 1) := by decide +kernel
theorem dX10_isBetter_26 : decode cX10_isBetter 26 = .ok (.iaload, 1) := by decide +kernel
theorem dX10_isBetter_27 : decode cX10_isBetter 27 = .ok (.if_icmp .ge 7, 3) := by decide +kernel
theorem dX10_isBetter_30 : decode cX10_isBetter 30 = .ok (.iconst 1, 1) := by decide +kernel
theorem dX10_isBetter_31 : decode cX10_isBetter 31 = .ok (.goto 4, 3) := by decide +kernel
theorem dX10_isBetter_34 : decode cX10_isBetter 34 = .ok (.iconst 0, 1) := by decide +kernel
theorem dX10_isBetter_35 : decode cX10_isBetter 35 = .ok (.ireturn, 1) := by decide +kernel
def zX10_isBetter (Qr : Option PV → Mem → Prop) : XZ := (RX10, 0, 0, 4, some FieldType.boolean, Qr)
noncomputable def fX10_isBetter (o : Nat) (x1 : Int) (x2 : Int) (x3 : Int) (F : Mem) : Option Int :=
  if (0 : Int) ≤ x3 ∧ x3 < (alen (o + 10) : Int) then
    if (F (o + 10) x3.toNat) < x1 then
      some 1
    else
      if (0 : Int) ≤ x3 ∧ x3 < (alen (o + 10) : Int) then
        if x1 ≠ (F (o + 10) x3.toNat) then
          some 0
        else
          if (0 : Int) ≤ x3 ∧ x3 < (alen (o + 11) : Int) then
            if (F (o + 11) x3.toNat) ≤ x2 then
              some 0
            else
              some 1
          else none
      else none
  else none
theorem fX10_isBetter_ok {Qr : Option PV → Mem → Prop} : ∀ (o : Nat) (x1 : Int) (x2 : Int) (x3 : Int) (F : Mem) (res : Int) (ho : isK o 10), fX10_isBetter o x1 x2 x3 F = some res → Qr (some (vI res)) F → PR cX10_isBetter (zX10_isBetter Qr) 0 [(0, vR o), (1, vI x1), (2, vI x2), (3, vI x3)] [] F := by
  intro o x1 x2 x3 F res ho h hq
  refine s_iload_n (j := 1) dX10_isBetter_0 rfl rfl ?_
  refine s_aload_n (j := 0) dX10_isBetter_1 rfl rfl ?_
  refine s_getR dX10_isBetter_2 flX10_45 ho ?_
  refine s_iload_n (j := 3) dX10_isBetter_5 rfl rfl ?_
  obtain ⟨hb1, h⟩ := gd h
  refine s_iaload dX10_isBetter_6 (trX10_24 ho) hb1.1 hb1.2 ?_
  refine s_icmp_gt (tgt := 30) dX10_isBetter_7 rfl (fun hc2 => ?_) (fun hc2 => ?_)
  · have h := ifp hc2 h
    refine s_iconst dX10_isBetter_30 (cin rfl) ?_
    refine s_goto (tgt := 35) dX10_isBetter_31 rfl ?_
    have h := Option.some.inj h
    subst h
    exact s_zreturn dX10_isBetter_35 rfl (Or.inr rfl) hq
  · have h := ifn hc2 h
    refine s_iload_n (j := 1) dX10_isBetter_10 rfl rfl ?_
    refine s_aload_n (j := 0) dX10_isBetter_11 rfl rfl ?_
    refine s_getR dX10_isBetter_12 flX10_45 ho ?_
    refine s_iload_n (j := 3) dX10_isBetter_15 rfl rfl ?_
    obtain ⟨hb3, h⟩ := gd h
    refine s_iaload dX10_isBetter_16 (trX10_24 ho) hb3.1 hb3.2 ?_
    refine s_icmp_ne (tgt := 34) dX10_isBetter_17 rfl (fun hc4 => ?_) (fun hc4 => ?_)
    · have h := ifp hc4 h
      refine s_iconst dX10_isBetter_34 (cin rfl) ?_
      have h := Option.some.inj h
      subst h
      exact s_zreturn dX10_isBetter_35 rfl (Or.inl rfl) hq
    · have h := ifn hc4 h
      refine s_iload_n (j := 2) dX10_isBetter_20 rfl rfl ?_
      refine s_aload_n (j := 0) dX10_isBetter_21 rfl rfl ?_
      refine s_getR dX10_isBetter_22 flX10_48 ho ?_
      refine s_iload_n (j := 3) dX10_isBetter_25 rfl rfl ?_
      obtain ⟨hb5, h⟩ := gd h
      refine s_iaload dX10_isBetter_26 (trX10_25 ho) hb5.1 hb5.2 ?_
      refine s_icmp_ge (tgt := 34) dX10_isBetter_27 rfl (fun hc6 => ?_) (fun hc6 => ?_)
      · have h := ifp hc6 h
        refine s_iconst dX10_isBetter_34 (cin rfl) ?_
        have h := Option.some.inj h
        subst h
        exact s_zreturn dX10_isBetter_35 rfl (Or.inl rfl) hq
      · have h := ifn hc6 h
        refine s_iconst dX10_isBetter_30 (cin rfl) ?_
        refine s_goto (tgt := 35) dX10_isBetter_31 rfl ?_
        have h := Option.some.inj h
        subst h
        exact s_zreturn dX10_isBetter_35 rfl (Or.inr rfl) hq
def gX10_isBetter : XG := fun As F r F' => ∃ o : Nat, ∃ x1 : Int, ∃ x2 : Int, ∃ x3 : Int, ∃ res : Int, As = [vR o, vI x1, vI x2, vI x3] ∧ isK o 10 ∧ fX10_isBetter o x1 x2 x3 F = some res ∧ r = some (vI res) ∧ F' = F
theorem ctX10_isBetter : xCT yX10_isBetter cX10_isBetter 4 (some FieldType.boolean) 0 0 gX10_isBetter := xmet (by decide +kernel) (fun As F r F' hg => by obtain ⟨o, x1, x2, x3, res, rfl, ho, h, rfl, rfl⟩ := hg; exact Nat.le_of_ble_eq_true rfl) (fun As F r F' hg => by obtain ⟨o, x1, x2, x3, res, rfl, ho, h, rfl, rfl⟩ := hg; exact fX10_isBetter_ok o x1 x2 x3 _ _ ho h ⟨rfl, rfl⟩)
theorem mcX10_isBetter : Cond.code yX10_isBetter cX10_isBetter 4 (some FieldType.boolean) ∈ xw_T ∧ Cond.initialized yX10_isBetter.cls ∈ xw_T ∧ Cond.instanceMethod yX10_isBetter ∈ xw_T ∧ Cond.selects yX10_isBetter.cls yX10_isBetter yX10_isBetter ∈ xw_T := ⟨(xinT 1777 (by decide +kernel) (by decide +kernel)), (xinT 127 (by decide +kernel) (by decide +kernel)), (xinT 1776 (by decide +kernel) (by decide +kernel)), (xinT 91 (by decide +kernel) (by decide +kernel))⟩
theorem clX10_309 {fr lo : Nat} (h1 : 0 + 1 ≤ fr) (h2 : 8 + (4 + 11) + 0 ≤ lo) : xCall RX10 fr lo 0 309 10 3 gX10_isBetter := ⟨_, _, _, _, _, _, ctX10_isBetter, h1, h2, mcX10_isBetter.1, (xinT 1774 (by decide +kernel) (by decide +kernel)), mcX10_isBetter.2.1, ⟨by decide +kernel, by decide +kernel, by decide +kernel⟩, by rw [if_pos rfl]; exact ⟨mcX10_isBetter.2.2.1, mcX10_isBetter.2.2.2, _, _, rfl⟩⟩
theorem dX10_takesUp_0 : decode cX10_takesUp 0 = .ok (.iload_n 1, 1) := by decide +kernel
theorem dX10_takesUp_1 : decode cX10_takesUp 1 = .ok (.ifCond .lt 13, 3) := by decide +kernel
theorem dX10_takesUp_4 : decode cX10_takesUp 4 = .ok (.aload_n 0, 1) := by decide +kernel
theorem dX10_takesUp_5 : decode cX10_takesUp 5 = .ok (.iload_n 1, 1) := by decide +kernel
theorem dX10_takesUp_6 : decode cX10_takesUp 6 = .ok (.iload_n 2, 1) := by decide +kernel
theorem dX10_takesUp_7 : decode cX10_takesUp 7 = .ok (.iload_n 3, 1) := by decide +kernel
theorem dX10_takesUp_8 : decode cX10_takesUp 8 = .ok (.invokevirtual 309, 3) := by decide +kernel
theorem dX10_takesUp_11 : decode cX10_takesUp 11 = .ok (.ifCond .ne 4, 3) := by decide +kernel
theorem dX10_takesUp_14 : decode cX10_takesUp 14 = .ok (.return_, 1) := by decide +kernel
theorem dX10_takesUp_15 : decode cX10_takesUp 15 = .ok (.aload_n 0, 1) := by decide +kernel
theorem dX10_takesUp_16 : decode cX10_takesUp 16 = .ok (.getfield 45, 3) := by decide +kernel
theorem dX10_takesUp_19 : decode cX10_takesUp 19 = .ok (.iload_n 3, 1) := by decide +kernel
theorem dX10_takesUp_20 : decode cX10_takesUp 20 = .ok (.iload_n 1, 1) := by decide +kernel
theorem dX10_takesUp_21 : decode cX10_takesUp 21 = .ok (.iastore, 1) := by decide +kernel
theorem dX10_takesUp_22 : decode cX10_takesUp 22 = .ok (.aload_n 0, 1) := by decide +kernel
theorem dX10_takesUp_23 : decode cX10_takesUp 23 = .ok (.getfield 48, 3) := by decide +kernel
theorem dX10_takesUp_26 : decode cX10_takesUp 26 = .ok (.iload_n 3, 1) := by decide +kernel
theorem dX10_takesUp_27 : decode cX10_takesUp 27 = .ok (.iload_n 2, 1) := by decide +kernel
theorem dX10_takesUp_28 : decode cX10_takesUp 28 = .ok (.iastore, 1) := by decide +kernel
theorem dX10_takesUp_29 : decode cX10_takesUp 29 = .ok (.return_, 1) := by decide +kernel
def zX10_takesUp (Qr : Option PV → Mem → Prop) : XZ := (RX10, 1, 23, 4, none, Qr)
noncomputable def fX10_takesUp (o : Nat) (x1 : Int) (x2 : Int) (x3 : Int) (F : Mem) : Option Mem :=
  if x1 < 0 then
    some F
  else
    (fX10_isBetter o x1 x2 x3 F).bind fun r2 =>
    if r2 ≠ 0 then
      if (0 : Int) ≤ x3 ∧ x3 < (alen (o + 10) : Int) then
        if (0 : Int) ≤ x3 ∧ x3 < (alen (o + 11) : Int) then
          some (mset (mset F (o + 10) x3.toNat x1) (o + 11) x3.toNat x2)
        else none
      else none
    else
      some F
theorem fX10_takesUp_ok {Qr : Option PV → Mem → Prop} : ∀ (o : Nat) (x1 : Int) (x2 : Int) (x3 : Int) (F : Mem) (res : Mem) (ho : isK o 10), fX10_takesUp o x1 x2 x3 F = some res → Qr none res → PR cX10_takesUp (zX10_takesUp Qr) 0 [(0, vR o), (1, vI x1), (2, vI x2), (3, vI x3)] [] F := by
  intro o x1 x2 x3 F res ho h hq
  refine s_iload_n (j := 1) dX10_takesUp_0 rfl rfl ?_
  refine s_if_lt (tgt := 14) dX10_takesUp_1 rfl (fun hc1 => ?_) (fun hc1 => ?_)
  · have h := ifp hc1 h
    have h := Option.some.inj h
    subst h
    exact s_return dX10_takesUp_14 rfl hq
  · have h := ifn hc1 h
    refine s_aload_n (j := 0) dX10_takesUp_4 rfl rfl ?_
    refine s_iload_n (j := 1) dX10_takesUp_5 rfl rfl ?_
    refine s_iload_n (j := 2) dX10_takesUp_6 rfl rfl ?_
    refine s_iload_n (j := 3) dX10_takesUp_7 rfl rfl ?_
    obtain ⟨r2, hv3, h⟩ := bnd h
    refine s_callV (As := [vI x1, vI x2, vI x3]) (rest := []) (r := (some (vI r2))) (F' := F) dX10_takesUp_8 (clX10_309 (Nat.le_of_ble_eq_true rfl) (Nat.le_of_ble_eq_true rfl)) ho rfl ⟨_, _, _, _, _, rfl, ho, hv3, rfl, rfl⟩ rfl (Nat.le_of_ble_eq_true rfl) ?_
    refine s_if_ne (tgt := 15) dX10_takesUp_11 rfl (fun hc4 => ?_) (fun hc4 => ?_)
    · have h := ifp hc4 h
      refine s_aload_n (j := 0) dX10_takesUp_15 rfl rfl ?_
      refine s_getR dX10_takesUp_16 flX10_45 ho ?_
      refine s_iload_n (j := 3) dX10_takesUp_19 rfl rfl ?_
      refine s_iload_n (j := 1) dX10_takesUp_20 rfl rfl ?_
      obtain ⟨hb5, h⟩ := gd h
      refine s_iastore dX10_takesUp_21 (trX10_24 ho) hb5.1 hb5.2 ?_
      refine s_aload_n (j := 0) dX10_takesUp_22 rfl rfl ?_
      refine s_getR dX10_takesUp_23 flX10_48 ho ?_
      refine s_iload_n (j := 3) dX10_takesUp_26 rfl rfl ?_
      refine s_iload_n (j := 2) dX10_takesUp_27 rfl rfl ?_
      obtain ⟨hb6, h⟩ := gd h
      refine s_iastore dX10_takesUp_28 (trX10_25 ho) hb6.1 hb6.2 ?_
      have h := Option.some.inj h
      subst h
      exact s_return dX10_takesUp_29 rfl hq
    · have h := ifn hc4 h
      have h := Option.some.inj h
      subst h
      exact s_return dX10_takesUp_14 rfl hq
def gX10_takesUp : XG := fun As F r F' => ∃ o : Nat, ∃ x1 : Int, ∃ x2 : Int, ∃ x3 : Int, ∃ res : Mem, As = [vR o, vI x1, vI x2, vI x3] ∧ isK o 10 ∧ fX10_takesUp o x1 x2 x3 F = some res ∧ r = none ∧ F' = res
theorem ctX10_takesUp : xCT yX10_takesUp cX10_takesUp 4 (none) 1 23 gX10_takesUp := xmet (by decide +kernel) (fun As F r F' hg => by obtain ⟨o, x1, x2, x3, res, rfl, ho, h, rfl, rfl⟩ := hg; exact Nat.le_of_ble_eq_true rfl) (fun As F r F' hg => by obtain ⟨o, x1, x2, x3, res, rfl, ho, h, rfl, rfl⟩ := hg; exact fX10_takesUp_ok o x1 x2 x3 _ _ ho h ⟨rfl, rfl⟩)
theorem mcX10_takesUp : Cond.code yX10_takesUp cX10_takesUp 4 (none) ∈ xw_T ∧ Cond.initialized yX10_takesUp.cls ∈ xw_T ∧ Cond.instanceMethod yX10_takesUp ∈ xw_T ∧ Cond.selects yX10_takesUp.cls yX10_takesUp yX10_takesUp ∈ xw_T := ⟨(xinT 1773 (by decide +kernel) (by decide +kernel)), (xinT 127 (by decide +kernel) (by decide +kernel)), (xinT 1772 (by decide +kernel) (by decide +kernel)), (xinT 90 (by decide +kernel) (by decide +kernel))⟩
theorem clX10_322 {fr lo : Nat} (h1 : 1 + 1 ≤ fr) (h2 : 8 + (4 + 11) + 23 ≤ lo) : xCall RX10 fr lo 0 322 10 3 gX10_takesUp := ⟨_, _, _, _, _, _, ctX10_takesUp, h1, h2, mcX10_takesUp.1, (xinT 1770 (by decide +kernel) (by decide +kernel)), mcX10_takesUp.2.1, ⟨by decide +kernel, by decide +kernel, by decide +kernel⟩, by rw [if_pos rfl]; exact ⟨mcX10_takesUp.2.2.1, mcX10_takesUp.2.2.2, _, _, rfl⟩⟩
theorem dX10_areFreeOfMusts_0 : decode cX10_areFreeOfMusts 0 = .ok (.iconst 1, 1) := by decide +kernel
theorem dX10_areFreeOfMusts_1 : decode cX10_areFreeOfMusts 1 = .ok (.istore_n 3, 1) := by decide +kernel
theorem dX10_areFreeOfMusts_2 : decode cX10_areFreeOfMusts 2 = .ok (.iload_n 1, 1) := by decide +kernel
theorem dX10_areFreeOfMusts_3 : decode cX10_areFreeOfMusts 3 = .ok (.istore 4, 2) := by decide +kernel
theorem dX10_areFreeOfMusts_5 : decode cX10_areFreeOfMusts 5 = .ok (.iload 4, 2) := by decide +kernel
theorem dX10_areFreeOfMusts_7 : decode cX10_areFreeOfMusts 7 = .ok (.iload_n 2, 1) := by decide +kernel
theorem dX10_areFreeOfMusts_8 : decode cX10_areFreeOfMusts 8 = .ok (.if_icmp .ge 29, 3) := by decide +kernel
theorem dX10_areFreeOfMusts_11 : decode cX10_areFreeOfMusts 11 = .ok (.iload_n 3, 1) := by decide +kernel
theorem dX10_areFreeOfMusts_12 : decode cX10_areFreeOfMusts 12 = .ok (.ifCond .eq 17, 3) := by decide +kernel
theorem dX10_areFreeOfMusts_15 : decode cX10_areFreeOfMusts 15 = .ok (.aload_n 0, 1) := by decide +kernel
theorem dX10_areFreeOfMusts_16 : decode cX10_areFreeOfMusts 16 = .ok (.iload 4, 2) := by decide +kernel
theorem dX10_areFreeOfMusts_18 : decode cX10_areFreeOfMusts 18 = .ok (.invokevirtual 312, 3) := by decide +kernel
theorem dX10_areFreeOfMusts_21 : decode cX10_areFreeOfMusts 21 = .ok (.iconst (-1), 1) := by decide +kernel
theorem dX10_areFreeOfMusts_22 : decode cX10_areFreeOfMusts 22 = .ok (.if_icmp .ne 7, 3) := by decide +kernel
theorem dX10_areFreeOfMusts_25 : decode cX10_areFreeOfMusts 25 = .ok (.iconst 1, 1) := by decide +kernel
theorem dX10_areFreeOfMusts_26 : decode cX10_areFreeOfMusts 26 = .ok (.goto 4, 3) := by decide +kernel
theorem dX10_areFreeOfMusts_29 : decode cX10_areFreeOfMusts 29 = .ok (.iconst 0, 1) := by decide +kernel
theorem dX10_areFreeOfMusts_30 : decode cX10_areFreeOfMusts 30 = .ok (.istore_n 3, 1) := by decide +kernel
theorem dX10_areFreeOfMusts_31 : decode cX10_areFreeOfMusts 31 = .ok (.iinc 4 1, 3) := by decide +kernel
theorem dX10_areFreeOfMusts_34 : decode cX10_areFreeOfMusts 34 = .ok (.goto (-29), 3) := by decide +kernel
theorem dX10_areFreeOfMusts_37 : decode cX10_areFreeOfMusts 37 = .ok (.iload_n 3, 1) := by decide +kernel
theorem dX10_areFreeOfMusts_38 : decode cX10_areFreeOfMusts 38 = .ok (.ireturn, 1) := by decide +kernel
def zX10_areFreeOfMusts (Qr : Option PV → Mem → Prop) : XZ := (RX10, 2, 46, 5, some FieldType.boolean, Qr)
noncomputable def fX10_areFreeOfMusts_b5 (F : Mem) : Nat → Nat → Int → Int → Int → Option Int
  | 0, _, _, _, _ => none
  | n + 1, o, x2, x3, x4 =>
    if x2 ≤ x4 then
      if x3 = 0 ∨ x3 = 1 then
        some x3
      else none
    else
      if x3 = 0 then
        fX10_areFreeOfMusts_b5 F n o x2 0 (xw (x4 + 1))
      else
        (fX10_mustIn o x4 F).bind fun r4 =>
        if r4 ≠ (-1) then
          fX10_areFreeOfMusts_b5 F n o x2 0 (xw (x4 + 1))
        else
          fX10_areFreeOfMusts_b5 F n o x2 1 (xw (x4 + 1))
noncomputable def fX10_areFreeOfMusts (o : Nat) (x1 : Int) (x2 : Int) (F : Mem) : Option Int :=
  fX10_areFreeOfMusts_b5 F FU o x2 1 x1
theorem fX10_areFreeOfMusts_b5_ok {Qr : Option PV → Mem → Prop}  (F : Mem) : ∀ (n : Nat) (o : Nat) (x2 : Int) (x3 : Int) (x4 : Int) (res : Int) (ho : isK o 10), fX10_areFreeOfMusts_b5 F n o x2 x3 x4 = some res → Qr (some (vI res)) F → PR cX10_areFreeOfMusts (zX10_areFreeOfMusts Qr) 5 [(0, vR o), (2, vI x2), (3, vI x3), (4, vI x4)] [] F := by
  intro n
  induction n with
  | zero => intro o x2 x3 x4 res ho h hq; exact nomatch (show (none : Option _) = some _ from h)
  | succ n ih =>
    intro o x2 x3 x4 res ho h hq
    refine s_iload (j := 3) dX10_areFreeOfMusts_5 rfl ?_
    refine s_iload_n (j := 1) dX10_areFreeOfMusts_7 rfl rfl ?_
    refine s_icmp_ge (tgt := 37) dX10_areFreeOfMusts_8 rfl (fun hc1 => ?_) (fun hc1 => ?_)
    · have h := ifp hc1 h
      refine s_iload_n (j := 2) dX10_areFreeOfMusts_37 rfl rfl ?_
      obtain ⟨hb2, h⟩ := gd h
      have h := Option.some.inj h
      subst h
      exact s_zreturn dX10_areFreeOfMusts_38 rfl hb2 hq
    · have h := ifn hc1 h
      refine s_iload_n (j := 2) dX10_areFreeOfMusts_11 rfl rfl ?_
      refine s_if_eq (tgt := 29) dX10_areFreeOfMusts_12 rfl (fun hc3 => ?_) (fun hc3 => ?_)
      · have h := ifp hc3 h
        refine s_iconst dX10_areFreeOfMusts_29 (cin rfl) ?_
        refine s_istore_n (ls' := [(3, vI 0), (0, vR o), (2, vI x2), (4, vI x4)]) dX10_areFreeOfMusts_30 rfl (Nat.le_of_ble_eq_true rfl) rfl ?_
        refine s_iinc (j := 3) dX10_areFreeOfMusts_31 rfl (Nat.le_of_ble_eq_true rfl) rfl ?_
        refine s_goto (tgt := 5) dX10_areFreeOfMusts_34 rfl ?_
        exact s_sub (ks := [2, 3, 1, 0]) rfl (ih o x2 0 (xw (x4 + 1)) _ ho h hq)
      · have h := ifn hc3 h
        refine s_aload_n (j := 0) dX10_areFreeOfMusts_15 rfl rfl ?_
        refine s_iload (j := 3) dX10_areFreeOfMusts_16 rfl ?_
        obtain ⟨r4, hv5, h⟩ := bnd h
        refine s_callV (As := [vI x4]) (rest := []) (r := (some (vI r4))) (F' := F) dX10_areFreeOfMusts_18 (clX10_312 (Nat.le_of_ble_eq_true rfl) (Nat.le_of_ble_eq_true rfl)) ho rfl ⟨_, _, _, rfl, ho, hv5, rfl, rfl⟩ rfl (Nat.le_of_ble_eq_true rfl) ?_
        refine s_iconst dX10_areFreeOfMusts_21 (cin rfl) ?_
        refine s_icmp_ne (tgt := 29) dX10_areFreeOfMusts_22 rfl (fun hc6 => ?_) (fun hc6 => ?_)
        · have h := ifp hc6 h
          refine s_iconst dX10_areFreeOfMusts_29 (cin rfl) ?_
          refine s_istore_n (ls' := [(3, vI 0), (0, vR o), (2, vI x2), (4, vI x4)]) dX10_areFreeOfMusts_30 rfl (Nat.le_of_ble_eq_true rfl) rfl ?_
          refine s_iinc (j := 3) dX10_areFreeOfMusts_31 rfl (Nat.le_of_ble_eq_true rfl) rfl ?_
          refine s_goto (tgt := 5) dX10_areFreeOfMusts_34 rfl ?_
          exact s_sub (ks := [2, 3, 1, 0]) rfl (ih o x2 0 (xw (x4 + 1)) _ ho h hq)
        · have h := ifn hc6 h
          refine s_iconst dX10_areFreeOfMusts_25 (cin rfl) ?_
          refine s_goto (tgt := 30) dX10_areFreeOfMusts_26 rfl ?_
          refine s_istore_n (ls' := [(3, vI 1), (0, vR o), (2, vI x2), (4, vI x4)]) dX10_areFreeOfMusts_30 rfl (Nat.le_of_ble_eq_true rfl) rfl ?_
          refine s_iinc (j := 3) dX10_areFreeOfMusts_31 rfl (Nat.le_of_ble_eq_true rfl) rfl ?_
          refine s_goto (tgt := 5) dX10_areFreeOfMusts_34 rfl ?_
          exact s_sub (ks := [2, 3, 1, 0]) rfl (ih o x2 1 (xw (x4 + 1)) _ ho h hq)
theorem fX10_areFreeOfMusts_ok {Qr : Option PV → Mem → Prop} : ∀ (o : Nat) (x1 : Int) (x2 : Int) (F : Mem) (res : Int) (ho : isK o 10), fX10_areFreeOfMusts o x1 x2 F = some res → Qr (some (vI res)) F → PR cX10_areFreeOfMusts (zX10_areFreeOfMusts Qr) 0 [(0, vR o), (1, vI x1), (2, vI x2)] [] F := by
  intro o x1 x2 F res ho h hq
  refine s_iconst dX10_areFreeOfMusts_0 (cin rfl) ?_
  refine s_istore_n (ls' := [(3, vI 1), (0, vR o), (1, vI x1), (2, vI x2)]) dX10_areFreeOfMusts_1 rfl (Nat.le_of_ble_eq_true rfl) rfl ?_
  refine s_iload_n (j := 2) dX10_areFreeOfMusts_2 rfl rfl ?_
  refine s_istore dX10_areFreeOfMusts_3 (Nat.le_of_ble_eq_true rfl) rfl ?_
  exact s_sub (ks := [2, 4, 1, 0]) rfl (fX10_areFreeOfMusts_b5_ok F FU o x2 1 x1 _ ho h hq)
def gX10_areFreeOfMusts : XG := fun As F r F' => ∃ o : Nat, ∃ x1 : Int, ∃ x2 : Int, ∃ res : Int, As = [vR o, vI x1, vI x2] ∧ isK o 10 ∧ fX10_areFreeOfMusts o x1 x2 F = some res ∧ r = some (vI res) ∧ F' = F
theorem ctX10_areFreeOfMusts : xCT yX10_areFreeOfMusts cX10_areFreeOfMusts 5 (some FieldType.boolean) 2 46 gX10_areFreeOfMusts := xmet (by decide +kernel) (fun As F r F' hg => by obtain ⟨o, x1, x2, res, rfl, ho, h, rfl, rfl⟩ := hg; exact Nat.le_of_ble_eq_true rfl) (fun As F r F' hg => by obtain ⟨o, x1, x2, res, rfl, ho, h, rfl, rfl⟩ := hg; exact fX10_areFreeOfMusts_ok o x1 x2 _ _ ho h ⟨rfl, rfl⟩)
theorem mcX10_areFreeOfMusts : Cond.code yX10_areFreeOfMusts cX10_areFreeOfMusts 5 (some FieldType.boolean) ∈ xw_T ∧ Cond.initialized yX10_areFreeOfMusts.cls ∈ xw_T ∧ Cond.instanceMethod yX10_areFreeOfMusts ∈ xw_T ∧ Cond.selects yX10_areFreeOfMusts.cls yX10_areFreeOfMusts yX10_areFreeOfMusts ∈ xw_T := ⟨(xinT 1785 (by decide +kernel) (by decide +kernel)), (xinT 127 (by decide +kernel) (by decide +kernel)), (xinT 1784 (by decide +kernel) (by decide +kernel)), (xinT 93 (by decide +kernel) (by decide +kernel))⟩
theorem clX10_330 {fr lo : Nat} (h1 : 2 + 1 ≤ fr) (h2 : 8 + (5 + 11) + 46 ≤ lo) : xCall RX10 fr lo 0 330 10 2 gX10_areFreeOfMusts := ⟨_, _, _, _, _, _, ctX10_areFreeOfMusts, h1, h2, mcX10_areFreeOfMusts.1, (xinT 1782 (by decide +kernel) (by decide +kernel)), mcX10_areFreeOfMusts.2.1, ⟨by decide +kernel, by decide +kernel, by decide +kernel⟩, by rw [if_pos rfl]; exact ⟨mcX10_areFreeOfMusts.2.2.1, mcX10_areFreeOfMusts.2.2.2, _, _, rfl⟩⟩
theorem dX10_goesTo_0 : decode cX10_goesTo 0 = .ok (.iload_n 3, 1) := by decide +kernel
theorem dX10_goesTo_1 : decode cX10_goesTo 1 = .ok (.aload_n 0, 1) := by decide +kernel
theorem dX10_goesTo_2 : decode cX10_goesTo 2 = .ok (.iload_n 1, 1) := by decide +kernel
theorem dX10_goesTo_3 : decode cX10_goesTo 3 = .ok (.iload_n 2, 1) := by decide +kernel
theorem dX10_goesTo_4 : decode cX10_goesTo 4 = .ok (.invokevirtual 199, 3) := by decide +kernel
theorem dX10_goesTo_7 : decode cX10_goesTo 7 = .ok (.iadd, 1) := by decide +kernel
theorem dX10_goesTo_8 : decode cX10_goesTo 8 = .ok (.istore 5, 2) := by decide +kernel
theorem dX10_goesTo_10 : decode cX10_goesTo 10 = .ok (.iload_n 2, 1) := by decide +kernel
theorem dX10_goesTo_11 : decode cX10_goesTo 11 = .ok (.iload_n 1, 1) := by decide +kernel
theorem dX10_goesTo_12 : decode cX10_goesTo 12 = .ok (.if_icmp .eq 37, 3) := by decide +kernel
theorem dX10_goesTo_15 : decode cX10_goesTo 15 = .ok (.iload 5, 2) := by decide +kernel
theorem dX10_goesTo_17 : decode cX10_goesTo 17 = .ok (.aload_n 0, 1) := by decide +kernel
theorem dX10_goesTo_18 : decode cX10_goesTo 18 = .ok (.getfield 315, 3) := by decide +kernel
theorem dX10_goesTo_21 : decode cX10_goesTo 21 = .ok (.if_icmp .gt 28, 3) := by decide +kernel
theorem dX10_goesTo_24 : decode cX10_goesTo 24 = .ok (.aload_n 0, 1) := by decide +kernel
theorem dX10_goesTo_25 : decode cX10_goesTo 25 = .ok (.getfield 45, 3) := by decide +kernel
theorem dX10_goesTo_28 : decode cX10_goesTo 28 = .ok (.bipush 8, 2) := by decide +kernel
theorem dX10_goesTo_30 : decode cX10_goesTo 30 = .ok (.iload 5, 2) := by decide +kernel
theorem dX10_goesTo_32 : decode cX10_goesTo 32 = .ok (.imul, 1) := by decide +kernel
theorem dX10_goesTo_33 : decode cX10_goesTo 33 = .ok (.iload_n 2, 1) := by decide +kernel
theorem dX10_goesTo_34 : decode cX10_goesTo 34 = .ok (.iadd, 1) := by decide +kernel
theorem dX10_goesTo_35 : decode cX10_goesTo 35 = .ok (.iaload, 1) := by decide +kernel
theorem dX10_goesTo_36 : decode cX10_goesTo 36 = .ok (.ifCond .lt 13, 3) := by decide +kernel
theorem dX10_goesTo_39 : decode cX10_goesTo 39 = .ok (.aload_n 0, 1) := by decide +kernel
theorem dX10_goesTo_40 : decode cX10_goesTo 40 = .ok (.iload_n 3, 1) := by decide +kernel
theorem dX10_goesTo_41 : decode cX10_goesTo 41 = .ok (.iload 5, 2) := by decide +kernel
theorem dX10_goesTo_43 : decode cX10_goesTo 43 = .ok (.invokevirtual 330, 3) := by decide +kernel
theorem dX10_goesTo_46 : decode cX10_goesTo 46 = .ok (.ifCond .ne 4, 3) := by decide +kernel
theorem dX10_goesTo_49 : decode cX10_goesTo 49 = .ok (.return_, 1) := by decide +kernel
theorem dX10_goesTo_50 : decode cX10_goesTo 50 = .ok (.aload_n 0, 1) := by decide +kernel
theorem dX10_goesTo_51 : decode cX10_goesTo 51 = .ok (.aload_n 0, 1) := by decide +kernel
theorem dX10_goesTo_52 : decode cX10_goesTo 52 = .ok (.getfield 45, 3) := by decide +kernel
theorem dX10_goesTo_55 : decode cX10_goesTo 55 = .ok (.bipush 8, 2) := by decide +kernel
theorem dX10_goesTo_57 : decode cX10_goesTo 57 = .ok (.iload 5, 2) := by decide +kernel
theorem dX10_goesTo_59 : decode cX10_goesTo 59 = .ok (.imul, 1) := by decide +kernel
theorem dX10_goesTo_60 : decode cX10_goesTo 60 = .ok (.iload_n 2, 1) := by decide +kernel
theorem dX10_goesTo_61 : decode cX10_goesTo 61 = .ok (.iadd, 1) := by decide +kernel
theorem dX10_goesTo_62 : decode cX10_goesTo 62 = .ok (.iaload, 1) := by decide +kernel
theorem dX10_goesTo_63 : decode cX10_goesTo 63 = .ok (.aload_n 0, 1) := by decide +kernel
theorem dX10_goesTo_64 : decode cX10_goesTo 64 = .ok (.getfield 48, 3) := by decide +kernel
theorem dX10_goesTo_67 : decode cX10_goesTo 67 = .ok (.bipush 8, 2) := by decide +kernel
theorem dX10_goesTo_69 : decode cX10_goesTo 69 = .ok (.iload 5, 2) := by decide +kernel
theorem dX10_goesTo_71 : decode cX10_goesTo 71 = .ok (.imul, 1) := by decide +kernel
theorem dX10_goesTo_72 : decode cX10_goesTo 72 = .ok (.iload_n 2, 1) := by decide +kernel
theorem dX10_goesTo_73 : decode cX10_goesTo 73 = .ok (.iadd, 1) := by decide +kernel
theorem dX10_goesTo_74 : decode cX10_goesTo 74 = .ok (.iaload, 1) := by decide +kernel
theorem dX10_goesTo_75 : decode cX10_goesTo 75 = .ok (.aload_n 0, 1) := by decide +kernel
theorem dX10_goesTo_76 : decode cX10_goesTo 76 = .ok (.iload_n 1, 1) := by decide +kernel
theorem dX10_goesTo_77 : decode cX10_goesTo 77 = .ok (.iload_n 2, 1) := by decide +kernel
theorem dX10_goesTo_78 : decode cX10_goesTo 78 = .ok (.invokevirtual 192, 3) := by decide +kernel
theorem dX10_goesTo_81 : decode cX10_goesTo 81 = .ok (.iadd, 1) := by decide +kernel
theorem dX10_goesTo_82 : decode cX10_goesTo 82 = .ok (.iload 4, 2) := by decide +kernel
theorem dX10_goesTo_84 : decode cX10_goesTo 84 = .ok (.invokevirtual 322, 3) := by decide +kernel
theorem dX10_goesTo_87 : decode cX10_goesTo 87 = .ok (.return_, 1) := by decide +kernel
def zX10_goesTo (Qr : Option PV → Mem → Prop) : XZ := (RX10, 3, 70, 6, none, Qr)
noncomputable def fX10_goesTo (o : Nat) (x1 : Int) (x2 : Int) (x3 : Int) (x4 : Int) (F : Mem) : Option Mem :=
  (fX10_slotsOf o x1 x2 F).bind fun r1 =>
  if x2 = x1 then
    some F
  else
    if (F o 27) < (xw (x3 + r1)) then
      some F
    else
      if (0 : Int) ≤ (xw ((xw (8 * (xw (x3 + r1)))) + x2)) ∧ (xw ((xw (8 * (xw (x3 + r1)))) + x2)) < (alen (o + 10) : Int) then
        if (F (o + 10) (xw ((xw (8 * (xw (x3 + r1)))) + x2)).toNat) < 0 then
          some F
        else
          (fX10_areFreeOfMusts o x3 (xw (x3 + r1)) F).bind fun r7 =>
          if r7 ≠ 0 then
            if (0 : Int) ≤ (xw ((xw (8 * (xw (x3 + r1)))) + x2)) ∧ (xw ((xw (8 * (xw (x3 + r1)))) + x2)) < (alen (o + 10) : Int) then
              if (0 : Int) ≤ (xw ((xw (8 * (xw (x3 + r1)))) + x2)) ∧ (xw ((xw (8 * (xw (x3 + r1)))) + x2)) < (alen (o + 11) : Int) then
                (fX10_steps o x1 x2 F).bind fun r12 =>
                (fX10_takesUp o (F (o + 10) (xw ((xw (8 * (xw (x3 + r1)))) + x2)).toNat) (xw ((F (o + 11) (xw ((xw (8 * (xw (x3 + r1)))) + x2)).toNat) + r12)) x4 F).bind fun q14 =>
                some q14
              else none
            else none
          else
            some F
      else none
theorem fX10_goesTo_ok {Qr : Option PV → Mem → Prop} : ∀ (o : Nat) (x1 : Int) (x2 : Int) (x3 : Int) (x4 : Int) (F : Mem) (res : Mem) (ho : isK o 10), fX10_goesTo o x1 x2 x3 x4 F = some res → Qr none res → PR cX10_goesTo (zX10_goesTo Qr) 0 [(0, vR o), (1, vI x1), (2, vI x2), (3, vI x3), (4, vI x4)] [] F := by
  intro o x1 x2 x3 x4 F res ho h hq
  refine s_iload_n (j := 3) dX10_goesTo_0 rfl rfl ?_
  refine s_aload_n (j := 0) dX10_goesTo_1 rfl rfl ?_
  refine s_iload_n (j := 1) dX10_goesTo_2 rfl rfl ?_
  refine s_iload_n (j := 2) dX10_goesTo_3 rfl rfl ?_
  obtain ⟨r1, hv2, h⟩ := bnd h
  refine s_callV (As := [vI x1, vI x2]) (rest := [vI x3]) (r := (some (vI r1))) (F' := F) dX10_goesTo_4 (clX10_199 (Nat.le_of_ble_eq_true rfl) (Nat.le_of_ble_eq_true rfl)) ho rfl ⟨_, _, _, _, rfl, ho, hv2, rfl, rfl⟩ rfl (Nat.le_of_ble_eq_true rfl) ?_
  refine s_iadd dX10_goesTo_7 ?_
  refine s_istore (ls' := [(5, vI (xw (x3 + r1))), (0, vR o), (1, vI x1), (2, vI x2), (3, vI x3), (4, vI x4)]) dX10_goesTo_8 (Nat.le_of_ble_eq_true rfl) rfl ?_
  refine s_iload_n (j := 3) dX10_goesTo_10 rfl rfl ?_
  refine s_iload_n (j := 2) dX10_goesTo_11 rfl rfl ?_
  refine s_icmp_eq (tgt := 49) dX10_goesTo_12 rfl (fun hc3 => ?_) (fun hc3 => ?_)
  · have h := ifp hc3 h
    have h := Option.some.inj h
    subst h
    exact s_return dX10_goesTo_49 rfl hq
  · have h := ifn hc3 h
    refine s_iload (j := 0) dX10_goesTo_15 rfl ?_
    refine s_aload_n (j := 1) dX10_goesTo_17 rfl rfl ?_
    refine s_getI dX10_goesTo_18 flX10_315 ho ?_
    refine s_icmp_gt (tgt := 49) dX10_goesTo_21 rfl (fun hc4 => ?_) (fun hc4 => ?_)
    · have h := ifp hc4 h
      have h := Option.some.inj h
      subst h
      exact s_return dX10_goesTo_49 rfl hq
    · have h := ifn hc4 h
      refine s_aload_n (j := 1) dX10_goesTo_24 rfl rfl ?_
      refine s_getR dX10_goesTo_25 flX10_45 ho ?_
      refine s_bipush dX10_goesTo_28 rfl (cin rfl) ?_
      refine s_iload (j := 0) dX10_goesTo_30 rfl ?_
      refine s_imul dX10_goesTo_32 ?_
      refine s_iload_n (j := 3) dX10_goesTo_33 rfl rfl ?_
      refine s_iadd dX10_goesTo_34 ?_
      obtain ⟨hb5, h⟩ := gd h
      refine s_iaload dX10_goesTo_35 (trX10_24 ho) hb5.1 hb5.2 ?_
      refine s_if_lt (tgt := 49) dX10_goesTo_36 rfl (fun hc6 => ?_) (fun hc6 => ?_)
      · have h := ifp hc6 h
        have h := Option.some.inj h
        subst h
        exact s_return dX10_goesTo_49 rfl hq
      · have h := ifn hc6 h
        refine s_aload_n (j := 1) dX10_goesTo_39 rfl rfl ?_
        refine s_iload_n (j := 4) dX10_goesTo_40 rfl rfl ?_
        refine s_iload (j := 0) dX10_goesTo_41 rfl ?_
        obtain ⟨r7, hv8, h⟩ := bnd h
        refine s_callV (As := [vI x3, vI (xw (x3 + r1))]) (rest := []) (r := (some (vI r7))) (F' := F) dX10_goesTo_43 (clX10_330 (Nat.le_of_ble_eq_true rfl) (Nat.le_of_ble_eq_true rfl)) ho rfl ⟨_, _, _, _, rfl, ho, hv8, rfl, rfl⟩ rfl (Nat.le_of_ble_eq_true rfl) ?_
        refine s_if_ne (tgt := 50) dX10_goesTo_46 rfl (fun hc9 => ?_) (fun hc9 => ?_)
        · have h := ifp hc9 h
          refine s_aload_n (j := 1) dX10_goesTo_50 rfl rfl ?_
          refine s_aload_n (j := 1) dX10_goesTo_51 rfl rfl ?_
          refine s_getR dX10_goesTo_52 flX10_45 ho ?_
          refine s_bipush dX10_goesTo_55 rfl (cin rfl) ?_
          refine s_iload (j := 0) dX10_goesTo_57 rfl ?_
          refine s_imul dX10_goesTo_59 ?_
          refine s_iload_n (j := 3) dX10_goesTo_60 rfl rfl ?_
          refine s_iadd dX10_goesTo_61 ?_
          obtain ⟨hb10, h⟩ := gd h
          refine s_iaload dX10_goesTo_62 (trX10_24 ho) hb10.1 hb10.2 ?_
          refine s_aload_n (j := 1) dX10_goesTo_63 rfl rfl ?_
          refine s_getR dX10_goesTo_64 flX10_48 ho ?_
          refine s_bipush dX10_goesTo_67 rfl (cin rfl) ?_
          refine s_iload (j := 0) dX10_goesTo_69 rfl ?_
          refine s_imul dX10_goesTo_71 ?_
          refine s_iload_n (j := 3) dX10_goesTo_72 rfl rfl ?_
          refine s_iadd dX10_goesTo_73 ?_
          obtain ⟨hb11, h⟩ := gd h
          refine s_iaload dX10_goesTo_74 (trX10_25 ho) hb11.1 hb11.2 ?_
          refine s_aload_n (j := 1) dX10_goesTo_75 rfl rfl ?_
          refine s_iload_n (j := 2) dX10_goesTo_76 rfl rfl ?_
          refine s_iload_n (j := 3) dX10_goesTo_77 rfl rfl ?_
          obtain ⟨r12, hv13, h⟩ := bnd h
          refine s_callV (As := [vI x1, vI x2]) (rest := [vI (F (o + 11) (xw ((xw (8 * (xw (x3 + r1)))) + x2)).toNat), vI (F (o + 10) (xw ((xw (8 * (xw (x3 + r1)))) + x2)).toNat), vR o]) (r := (some (vI r12))) (F' := F) dX10_goesTo_78 (clX10_192 (Nat.le_of_ble_eq_true rfl) (Nat.le_of_ble_eq_true rfl)) ho rfl ⟨_, _, _, _, rfl, ho, hv13, rfl, rfl⟩ rfl (Nat.le_of_ble_eq_true rfl) ?_
          refine s_iadd dX10_goesTo_81 ?_
          refine s_iload (j := 5) dX10_goesTo_82 rfl ?_
          obtain ⟨q14, hv15, h⟩ := bnd h
          refine s_callV (As := [vI (F (o + 10) (xw ((xw (8 * (xw (x3 + r1)))) + x2)).toNat), vI (xw ((F (o + 11) (xw ((xw (8 * (xw (x3 + r1)))) + x2)).toNat) + r12)), vI x4]) (rest := []) (r := none) (F' := q14) dX10_goesTo_84 (clX10_322 (Nat.le_of_ble_eq_true rfl) (Nat.le_of_ble_eq_true rfl)) ho rfl ⟨_, _, _, _, _, rfl, ho, hv15, rfl, rfl⟩ rfl (Nat.le_of_ble_eq_true rfl) ?_
          have h := Option.some.inj h
          subst h
          exact s_return dX10_goesTo_87 rfl hq
        · have h := ifn hc9 h
          have h := Option.some.inj h
          subst h
          exact s_return dX10_goesTo_49 rfl hq
def gX10_goesTo : XG := fun As F r F' => ∃ o : Nat, ∃ x1 : Int, ∃ x2 : Int, ∃ x3 : Int, ∃ x4 : Int, ∃ res : Mem, As = [vR o, vI x1, vI x2, vI x3, vI x4] ∧ isK o 10 ∧ fX10_goesTo o x1 x2 x3 x4 F = some res ∧ r = none ∧ F' = res
theorem ctX10_goesTo : xCT yX10_goesTo cX10_goesTo 6 (none) 3 70 gX10_goesTo := xmet (by decide +kernel) (fun As F r F' hg => by obtain ⟨o, x1, x2, x3, x4, res, rfl, ho, h, rfl, rfl⟩ := hg; exact Nat.le_of_ble_eq_true rfl) (fun As F r F' hg => by obtain ⟨o, x1, x2, x3, x4, res, rfl, ho, h, rfl, rfl⟩ := hg; exact fX10_goesTo_ok o x1 x2 x3 x4 _ _ ho h ⟨rfl, rfl⟩)
theorem mcX10_goesTo : Cond.code yX10_goesTo cX10_goesTo 6 (none) ∈ xw_T ∧ Cond.initialized yX10_goesTo.cls ∈ xw_T ∧ Cond.instanceMethod yX10_goesTo ∈ xw_T ∧ Cond.selects yX10_goesTo.cls yX10_goesTo yX10_goesTo ∈ xw_T := ⟨(xinT 1781 (by decide +kernel) (by decide +kernel)), (xinT 127 (by decide +kernel) (by decide +kernel)), (xinT 1780 (by decide +kernel) (by decide +kernel)), (xinT 92 (by decide +kernel) (by decide +kernel))⟩
theorem clX10_326 {fr lo : Nat} (h1 : 3 + 1 ≤ fr) (h2 : 8 + (6 + 11) + 70 ≤ lo) : xCall RX10 fr lo 0 326 10 4 gX10_goesTo := ⟨_, _, _, _, _, _, ctX10_goesTo, h1, h2, mcX10_goesTo.1, (xinT 1778 (by decide +kernel) (by decide +kernel)), mcX10_goesTo.2.1, ⟨by decide +kernel, by decide +kernel, by decide +kernel⟩, by rw [if_pos rfl]; exact ⟨mcX10_goesTo.2.2.1, mcX10_goesTo.2.2.2, _, _, rfl⟩⟩
theorem dX10_solves_0 : decode cX10_solves 0 = .ok (.aload_n 0, 1) := by decide +kernel
theorem dX10_solves_1 : decode cX10_solves 1 = .ok (.iload_n 1, 1) := by decide +kernel
theorem dX10_solves_2 : decode cX10_solves 2 = .ok (.aload_n 0, 1) := by decide +kernel
theorem dX10_solves_3 : decode cX10_solves 3 = .ok (.iconst 0, 1) := by decide +kernel
theorem dX10_solves_4 : decode cX10_solves 4 = .ok (.invokevirtual 181, 3) := by decide +kernel
theorem dX10_solves_7 : decode cX10_solves 7 = .ok (.imul, 1) := by decide +kernel
theorem dX10_solves_8 : decode cX10_solves 8 = .ok (.putfield 315, 3) := by decide +kernel
theorem dX10_solves_11 : decode cX10_solves 11 = .ok (.iconst 0, 1) := by decide +kernel
theorem dX10_solves_12 : decode cX10_solves 12 = .ok (.istore_n 2, 1) := by decide +kernel
theorem dX10_solves_13 : decode cX10_solves 13 = .ok (.iload_n 2, 1) := by decide +kernel
theorem dX10_solves_14 : decode cX10_solves 14 = .ok (.aload_n 0, 1) := by decide +kernel
theorem dX10_solves_15 : decode cX10_solves 15 = .ok (.iconst 5, 1) := by decide +kernel
theorem dX10_solves_16 : decode cX10_solves 16 = .ok (.invokevirtual 181, 3) := by decide +kernel
theorem dX10_solves_19 : decode cX10_solves 19 = .ok (.if_icmp .ge 61, 3) := by decide +kernel
theorem dX10_solves_22 : decode cX10_solves 22 = .ok (.aload_n 0, 1) := by decide +kernel
theorem dX10_solves_23 : decode cX10_solves 23 = .ok (.getfield 45, 3) := by decide +kernel
theorem dX10_solves_26 : decode cX10_solves 26 = .ok (.bipush 8, 2) := by decide +kernel
theorem dX10_solves_28 : decode cX10_solves 28 = .ok (.aload_n 0, 1) := by decide +kernel
theorem dX10_solves_29 : decode cX10_solves 29 = .ok (.getfield 315, 3) := by decide +kernel
theorem dX10_solves_32 : decode cX10_solves 32 = .ok (.imul, 1) := by decide +kernel
theorem dX10_solves_33 : decode cX10_solves 33 = .ok (.iload_n 2, 1) := by decide +kernel
theorem dX10_solves_34 : decode cX10_solves 34 = .ok (.iadd, 1) := by decide +kernel
theorem dX10_solves_35 : decode cX10_solves 35 = .ok (.aload_n 0, 1) := by decide +kernel
theorem dX10_solves_36 : decode cX10_solves 36 = .ok (.getfield 294, 3) := by decide +kernel
theorem dX10_solves_39 : decode cX10_solves 39 = .ok (.ifCond .eq 18, 3) := by decide +kernel
theorem dX10_solves_42 : decode cX10_solves 42 = .ok (.iload_n 2, 1) := by decide +kernel
theorem dX10_solves_43 : decode cX10_solves 43 = .ok (.aload_n 0, 1) := by decide +kernel
theorem dX10_solves_44 : decode cX10_solves 44 = .ok (.iconst 4, 1) := by decide +kernel
theorem dX10_solves_45 : decode cX10_solves 45 = .ok (.invokevirtual 181, 3) := by decide +kernel
theorem dX10_solves_48 : decode cX10_solves 48 = .ok (.if_icmp .eq 9, 3) := by decide +kernel
theorem dX10_solves_51 : decode cX10_solves 51 = .ok (.ldc_w 318, 3) := by decide +kernel
theorem dX10_solves_54 : decode cX10_solves 54 = .ok (.goto 4, 3) := by decide +kernel
theorem dX10_solves_57 : decode cX10_solves 57 = .ok (.iconst 0, 1) := by decide +kernel
theorem dX10_solves_58 : decode cX10_solves 58 = .ok (.iastore, 1) := by decide +kernel
theorem dX10_solves_59 : decode cX10_solves 59 = .ok (.aload_n 0, 1) := by decide +kernel
theorem dX10_solves_60 : decode cX10_solves 60 = .ok (.getfield 48, 3) := by decide +kernel
theorem dX10_solves_63 : decode cX10_solves 63 = .ok (.bipush 8, 2) := by decide +kernel
theorem dX10_solves_65 : decode cX10_solves 65 = .ok (.aload_n 0, 1) := by decide +kernel
theorem dX10_solves_66 : decode cX10_solves 66 = .ok (.getfield 315, 3) := by decide +kernel
theorem dX10_solves_69 : decode cX10_solves 69 = .ok (.imul, 1) := by decide +kernel
theorem dX10_solves_70 : decode cX10_solves 70 = .ok (.iload_n 2, 1) := by decide +kernel
theorem dX10_solves_71 : decode cX10_solves 71 = .ok (.iadd, 1) := by decide +kernel
theorem dX10_solves_72 : decode cX10_solves 72 = .ok (.iconst 0, 1) := by decide +kernel
theorem dX10_solves_73 : decode cX10_solves 73 = .ok (.iastore, 1) := by decide +kernel
theorem dX10_solves_74 : decode cX10_solves 74 = .ok (.iinc 2 1, 3) := by decide +kernel
theorem dX10_solves_77 : decode cX10_solves 77 = .ok (.goto (-64), 3) := by decide +kernel
theorem dX10_solves_80 : decode cX10_solves 80 = .ok (.aload_n 0, 1) := by decide +kernel
theorem dX10_solves_81 : decode cX10_solves 81 = .ok (.getfield 315, 3) := by decide +kernel
theorem dX10_solves_84 : decode cX10_solves 84 = .ok (.iconst 1, 1) := by decide +kernel
theorem dX10_solves_85 : decode cX10_solves 85 = .ok (.isub, 1) := by decide +kernel
theorem dX10_solves_86 : decode cX10_solves 86 = .ok (.istore_n 2, 1) := by decide +kernel
theorem dX10_solves_87 : decode cX10_solves 87 = .ok (.iload_n 2, 1) := by decide +kernel
theorem dX10_solves_88 : decode cX10_solves 88 = .ok (.ifCond .lt 149, 3) := by decide +kernel
theorem dX10_solves_91 : decode cX10_solves 91 = .ok (.aload_n 0, 1) := by decide +kernel
theorem dX10_solves_92 : decode cX10_solves 92 = .ok (.iload_n 2, 1) := by decide +kernel
theorem dX10_solves_93 : decode cX10_solves 93 = .ok (.invokevirtual 312, 3) := by decide +kernel
theorem dX10_solves_96 : decode cX10_solves 96 = .ok (.istore_n 3, 1) := by decide +kernel
theorem dX10_solves_97 : decode cX10_solves 97 = .ok (.iconst 0, 1) := by decide +kernel
theorem dX10_solves_98 : decode cX10_solves 98 = .ok (.istore 4, 2) := by decide +kernel
theorem dX10_solves_100 : decode cX10_solves 100 = .ok (.iload 4, 2) := by decide +kernel
theorem dX10_solves_102 : decode cX10_solves 102 = .ok (.aload_n 0, 1) := by decide +kernel
theorem dX10_solves_103 : decode cX10_solves 103 = .ok (.iconst 5, 1) := by decide +kernel
theorem dX10_solves_104 : decode cX10_solves 104 = .ok (.invokevirtual 181, 3) := by decide +kernel
theorem dX10_solves_107 : decode cX10_solves 107 = .ok (.if_icmp .ge 124, 3) := by decide +kernel
theorem dX10_solves_110 : decode cX10_solves 110 = .ok (.bipush 8, 2) := by decide +kernel
theorem dX10_solves_112 : decode cX10_solves 112 = .ok (.iload_n 2, 1) := by decide +kernel
theorem dX10_solves_113 : decode cX10_solves 113 = .ok (.imul, 1) := by decide +kernel
theorem dX10_solves_114 : decode cX10_solves 114 = .ok (.iload 4, 2) := by decide +kernel
theorem dX10_solves_116 : decode cX10_solves 116 = .ok (.iadd, 1) := by decide +kernel
theorem dX10_solves_117 : decode cX10_solves 117 = .ok (.istore 5, 2) := by decide +kernel
theorem dX10_solves_119 : decode cX10_solves 119 = .ok (.aload_n 0, 1) := by decide +kernel
theorem dX10_solves_120 : decode cX10_solves 120 = .ok (.getfield 45, 3) := by decide +kernel
theorem dX10_solves_123 : decode cX10_solves 123 = .ok (.iload 5, 2) := by decide +kernel
theorem dX10_solves_125 : decode cX10_solves 125 = .ok (.ldc_w 318, 3) := by decide +kernel
theorem dX10_solves_128 : decode cX10_solves 128 = .ok (.iastore, 1) := by decide +kernel
theorem dX10_solves_129 : decode cX10_solves 129 = .ok (.aload_n 0, 1) := by decide +kernel
theorem dX10_solves_130 : decode cX10_solves 130 = .ok (.getfield 48, 3) := by decide +kernel
theorem dX10_solves_133 : decode cX10_solves 133 = .ok (.iload 5, 2) := by decide +kernel
theorem dX10_solves_135 : decode cX10_solves 135 = .ok (.iconst 0, 1) := by decide +kernel
theorem dX10_solves_136 : decode cX10_solves 136 = .ok (.iastore, 1) := by decide +kernel
theorem dX10_solves_137 : decode cX10_solves 137 = .ok (.iload_n 3, 1) := by decide +kernel
theorem dX10_solves_138 : decode cX10_solves 138 = .ok (.iconst (-1), 1) := by decide +kernel
theorem dX10_solves_139 : decode cX10_solves 139 = .ok (.if_icmp .eq 9, 3) := by decide +kernel
theorem dX10_solves_142 : decode cX10_solves 142 = .ok (.iload_n 3, 1) := by decide +kernel
theorem dX10_solves_143 : decode cX10_solves 143 = .ok (.iload 4, 2) := by decide +kernel
theorem dX10_solves_145 : decode cX10_solves 145 = .ok (.if_icmp .ne 50, 3) := by decide +kernel
theorem dX10_solves_148 : decode cX10_solves 148 = .ok (.aload_n 0, 1) := by decide +kernel
theorem dX10_solves_149 : decode cX10_solves 149 = .ok (.getfield 45, 3) := by decide +kernel
theorem dX10_solves_152 : decode cX10_solves 152 = .ok (.iload 5, 2) := by decide +kernel
theorem dX10_solves_154 : decode cX10_solves 154 = .ok (.bipush 8, 2) := by decide +kernel
theorem dX10_solves_156 : decode cX10_solves 156 = .ok (.iadd, 1) := by decide +kernel
theorem dX10_solves_157 : decode cX10_solves 157 = .ok (.iaload, 1) := by decide +kernel
theorem dX10_solves_158 : decode cX10_solves 158 = .ok (.ifCond .lt 37, 3) := by decide +kernel
theorem dX10_solves_161 : decode cX10_solves 161 = .ok (.aload_n 0, 1) := by decide +kernel
theorem dX10_solves_162 : decode cX10_solves 162 = .ok (.aload_n 0, 1) := by decide +kernel
theorem dX10_solves_163 : decode cX10_solves 163 = .ok (.getfield 45, 3) := by decide +kernel
theorem dX10_solves_166 : decode cX10_solves 166 = .ok (.iload 5, 2) := by decide +kernel
theorem dX10_solves_168 : decode cX10_solves 168 = .ok (.bipush 8, 2) := by decide +kernel
theorem dX10_solves_170 : decode cX10_solves 170 = .ok (.iadd, 1) := by decide +kernel
theorem dX10_solves_171 : decode cX10_solves 171 = .ok (.iaload, 1) := by decide +kernel
theorem dX10_solves_172 : decode cX10_solves 172 = .ok (.aload_n 0, 1) := by decide +kernel
theorem dX10_solves_173 : decode cX10_solves 173 = .ok (.iload 4, 2) := by decide +kernel
theorem dX10_solves_175 : decode cX10_solves 175 = .ok (.iload_n 2, 1) := by decide +kernel
theorem dX10_solves_176 : decode cX10_solves 176 = .ok (.invokevirtual 319, 3) := by decide +kernel
theorem dX10_solves_179 : decode cX10_solves 179 = .ok (.iadd, 1) := by decide +kernel
theorem dX10_solves_180 : decode cX10_solves 180 = .ok (.aload_n 0, 1) := by decide +kernel
theorem dX10_solves_181 : decode cX10_solves 181 = .ok (.getfield 48, 3) := by decide +kernel
theorem dX10_solves_184 : decode cX10_solves 184 = .ok (.iload 5, 2) := by decide +kernel
theorem dX10_solves_186 : decode cX10_solves 186 = .ok (.bipush 8, 2) := by decide +kernel
theorem dX10_solves_188 : decode cX10_solves 188 = .ok (.iadd, 1) := by decide +kernel
theorem dX10_solves_189 : decode cX10_solves 189 = .ok (.iaload, 1) := by decide +kernel
theorem dX10_solves_190 : decode cX10_solves 190 = .ok (.iload 5, 2) := by decide +kernel
theorem dX10_solves_192 : decode cX10_solves 192 = .ok (.invokevirtual 322, 3) := by decide +kernel
theorem dX10_solves_195 : decode cX10_solves 195 = .ok (.iconst 0, 1) := by decide +kernel
theorem dX10_solves_196 : decode cX10_solves 196 = .ok (.istore 6, 2) := by decide +kernel
theorem dX10_solves_198 : decode cX10_solves 198 = .ok (.iload 6, 2) := by decide +kernel
theorem dX10_solves_200 : decode cX10_solves 200 = .ok (.aload_n 0, 1) := by decide +kernel
theorem dX10_solves_201 : decode cX10_solves 201 = .ok (.iconst 5, 1) := by decide +kernel
theorem dX10_solves_202 : decode cX10_solves 202 = .ok (.invokevirtual 181, 3) := by decide +kernel
theorem dX10_solves_205 : decode cX10_solves 205 = .ok (.if_icmp .ge 20, 3) := by decide +kernel
theorem dX10_solves_208 : decode cX10_solves 208 = .ok (.aload_n 0, 1) := by decide +kernel
theorem dX10_solves_209 : decode cX10_solves 209 = .ok (.iload 4, 2) := by decide +kernel
theorem dX10_solves_211 : decode cX10_solves 211 = .ok (.iload 6, 2) := by decide +kernel
theorem dX10_solves_213 : decode cX10_solves 213 = .ok (.iload_n 2, 1) := by decide +kernel
theorem dX10_solves_214 : decode cX10_solves 214 = .ok (.iload 5, 2) := by decide +kernel
theorem dX10_solves_216 : decode cX10_solves 216 = .ok (.invokevirtual 326, 3) := by decide +kernel
theorem dX10_solves_219 : decode cX10_solves 219 = .ok (.iinc 6 1, 3) := by decide +kernel
theorem dX10_solves_222 : decode cX10_solves 222 = .ok (.goto (-24), 3) := by decide +kernel
theorem dX10_solves_225 : decode cX10_solves 225 = .ok (.iinc 4 1, 3) := by decide +kernel
theorem dX10_solves_228 : decode cX10_solves 228 = .ok (.goto (-128), 3) := by decide +kernel
theorem dX10_solves_231 : decode cX10_solves 231 = .ok (.iinc 2 (-1), 3) := by decide +kernel
theorem dX10_solves_234 : decode cX10_solves 234 = .ok (.goto (-147), 3) := by decide +kernel
theorem dX10_solves_237 : decode cX10_solves 237 = .ok (.return_, 1) := by decide +kernel
def zX10_solves (Qr : Option PV → Mem → Prop) : XZ := (RX10, 4, 95, 7, none, Qr)
noncomputable def fX10_solves_b198 (k87 : Nat → Int → Mem → Option Mem) (k100 : Nat → Int → Int → Int → Mem → Option Mem) : Nat → Nat → Int → Int → Int → Int → Int → Mem → Option Mem
  | 0, _, _, _, _, _, _, _ => none
  | n + 1, o, x2, x3, x4, x5, x6, F =>
    (fX10_of o 5 F).bind fun r1 =>
    if r1 ≤ x6 then
      k100 o x2 x3 (xw (x4 + 1)) F
    else
      (fX10_goesTo o x4 x6 x2 x5 F).bind fun q4 =>
      fX10_solves_b198 k87 k100 n o x2 x3 x4 x5 (xw (x6 + 1)) q4
noncomputable def fX10_solves_b148 (k87 : Nat → Int → Mem → Option Mem) (k100 : Nat → Int → Int → Int → Mem → Option Mem) (o : Nat) (x2 : Int) (x3 : Int) (x4 : Int) (x5 : Int) (F : Mem) : Option Mem :=
  if (0 : Int) ≤ (xw (x5 + 8)) ∧ (xw (x5 + 8)) < (alen (o + 10) : Int) then
    if (F (o + 10) (xw (x5 + 8)).toNat) < 0 then
      fX10_solves_b198 k87 k100 FU o x2 x3 x4 x5 0 F
    else
      if (0 : Int) ≤ (xw (x5 + 8)) ∧ (xw (x5 + 8)) < (alen (o + 10) : Int) then
        (fX10_gainIn o x4 x2 F).bind fun r4 =>
        if (0 : Int) ≤ (xw (x5 + 8)) ∧ (xw (x5 + 8)) < (alen (o + 11) : Int) then
          (fX10_takesUp o (xw ((F (o + 10) (xw (x5 + 8)).toNat) + r4)) (F (o + 11) (xw (x5 + 8)).toNat) x5 F).bind fun q7 =>
          fX10_solves_b198 k87 k100 FU o x2 x3 x4 x5 0 q7
        else none
      else none
  else none
noncomputable def fX10_solves_b100 (k87 : Nat → Int → Mem → Option Mem) : Nat → Nat → Int → Int → Int → Mem → Option Mem
  | 0, _, _, _, _, _ => none
  | n + 1, o, x2, x3, x4, F =>
    (fX10_of o 5 F).bind fun r1 =>
    if r1 ≤ x4 then
      k87 o (xw (x2 + (-1))) F
    else
      if (0 : Int) ≤ (xw ((xw (8 * x2)) + x4)) ∧ (xw ((xw (8 * x2)) + x4)) < (alen (o + 10) : Int) then
        if (0 : Int) ≤ (xw ((xw (8 * x2)) + x4)) ∧ (xw ((xw (8 * x2)) + x4)) < (alen (o + 11) : Int) then
          if x3 = (-1) then
            fX10_solves_b148 k87 (fX10_solves_b100 k87 n) o x2 x3 x4 (xw ((xw (8 * x2)) + x4)) (mset (mset F (o + 10) (xw ((xw (8 * x2)) + x4)).toNat (-1000000)) (o + 11) (xw ((xw (8 * x2)) + x4)).toNat 0)
          else
            if x3 ≠ x4 then
              fX10_solves_b198 k87 (fX10_solves_b100 k87 n) FU o x2 x3 x4 (xw ((xw (8 * x2)) + x4)) 0 (mset (mset F (o + 10) (xw ((xw (8 * x2)) + x4)).toNat (-1000000)) (o + 11) (xw ((xw (8 * x2)) + x4)).toNat 0)
            else
              fX10_solves_b148 k87 (fX10_solves_b100 k87 n) o x2 x3 x4 (xw ((xw (8 * x2)) + x4)) (mset (mset F (o + 10) (xw ((xw (8 * x2)) + x4)).toNat (-1000000)) (o + 11) (xw ((xw (8 * x2)) + x4)).toNat 0)
        else none
      else none
noncomputable def fX10_solves_b87 : Nat → Nat → Int → Mem → Option Mem
  | 0, _, _, _ => none
  | n + 1, o, x2, F =>
    if x2 < 0 then
      some F
    else
      (fX10_mustIn o x2 F).bind fun r2 =>
      fX10_solves_b100 (fX10_solves_b87 n) FU o x2 r2 0 F
noncomputable def fX10_solves_b13 : Nat → Nat → Int → Mem → Option Mem
  | 0, _, _, _ => none
  | n + 1, o, x2, F =>
    (fX10_of o 5 F).bind fun r1 =>
    if r1 ≤ x2 then
      fX10_solves_b87 FU o (xw ((F o 27) - 1)) F
    else
      if (F o 31) = 0 then
        if (0 : Int) ≤ (xw ((xw (8 * (F o 27))) + x2)) ∧ (xw ((xw (8 * (F o 27))) + x2)) < (alen (o + 10) : Int) then
          if (0 : Int) ≤ (xw ((xw (8 * ((mset F (o + 10) (xw ((xw (8 * (F o 27))) + x2)).toNat 0) o 27))) + x2)) ∧ (xw ((xw (8 * ((mset F (o + 10) (xw ((xw (8 * (F o 27))) + x2)).toNat 0) o 27))) + x2)) < (alen (o + 11) : Int) then
            fX10_solves_b13 n o (xw (x2 + 1)) (mset (mset F (o + 10) (xw ((xw (8 * (F o 27))) + x2)).toNat 0) (o + 11) (xw ((xw (8 * ((mset F (o + 10) (xw ((xw (8 * (F o 27))) + x2)).toNat 0) o 27))) + x2)).toNat 0)
          else none
        else none
      else
        (fX10_of o 4 F).bind fun r7 =>
        if x2 = r7 then
          if (0 : Int) ≤ (xw ((xw (8 * (F o 27))) + x2)) ∧ (xw ((xw (8 * (F o 27))) + x2)) < (alen (o + 10) : Int) then
            if (0 : Int) ≤ (xw ((xw (8 * ((mset F (o + 10) (xw ((xw (8 * (F o 27))) + x2)).toNat 0) o 27))) + x2)) ∧ (xw ((xw (8 * ((mset F (o + 10) (xw ((xw (8 * (F o 27))) + x2)).toNat 0) o 27))) + x2)) < (alen (o + 11) : Int) then
              fX10_solves_b13 n o (xw (x2 + 1)) (mset (mset F (o + 10) (xw ((xw (8 * (F o 27))) + x2)).toNat 0) (o + 11) (xw ((xw (8 * ((mset F (o + 10) (xw ((xw (8 * (F o 27))) + x2)).toNat 0) o 27))) + x2)).toNat 0)
            else none
          else none
        else
          if (0 : Int) ≤ (xw ((xw (8 * (F o 27))) + x2)) ∧ (xw ((xw (8 * (F o 27))) + x2)) < (alen (o + 10) : Int) then
            if (0 : Int) ≤ (xw ((xw (8 * ((mset F (o + 10) (xw ((xw (8 * (F o 27))) + x2)).toNat (-1000000)) o 27))) + x2)) ∧ (xw ((xw (8 * ((mset F (o + 10) (xw ((xw (8 * (F o 27))) + x2)).toNat (-1000000)) o 27))) + x2)) < (alen (o + 11) : Int) then
              fX10_solves_b13 n o (xw (x2 + 1)) (mset (mset F (o + 10) (xw ((xw (8 * (F o 27))) + x2)).toNat (-1000000)) (o + 11) (xw ((xw (8 * ((mset F (o + 10) (xw ((xw (8 * (F o 27))) + x2)).toNat (-1000000)) o 27))) + x2)).toNat 0)
            else none
          else none
noncomputable def fX10_solves (o : Nat) (x1 : Int) (F : Mem) : Option Mem :=
  (fX10_of o 0 F).bind fun r1 =>
  fX10_solves_b13 FU o 0 (mset F o 27 (xw (x1 * r1)))
theorem fX10_solves_b198_ok {Qr : Option PV → Mem → Prop}  (k87 : Nat → Int → Mem → Option Mem) (k100 : Nat → Int → Int → Int → Mem → Option Mem) (hk87 : ∀ (o : Nat) (x2 : Int) (F : Mem) (res : Mem) (ho : isK o 10), k87 o x2 F = some res → Qr none res → PR cX10_solves (zX10_solves Qr) 87 [(0, vR o), (2, vI x2)] [] F) (hk100 : ∀ (o : Nat) (x2 : Int) (x3 : Int) (x4 : Int) (F : Mem) (res : Mem) (ho : isK o 10), k100 o x2 x3 x4 F = some res → Qr none res → PR cX10_solves (zX10_solves Qr) 100 [(0, vR o), (2, vI x2), (3, vI x3), (4, vI x4)] [] F) : ∀ (n : Nat) (o : Nat) (x2 : Int) (x3 : Int) (x4 : Int) (x5 : Int) (x6 : Int) (F : Mem) (res : Mem) (ho : isK o 10), fX10_solves_b198 k87 k100 n o x2 x3 x4 x5 x6 F = some res → Qr none res → PR cX10_solves (zX10_solves Qr) 198 [(0, vR o), (2, vI x2), (3, vI x3), (4, vI x4), (5, vI x5), (6, vI x6)] [] F := by
  intro n
  induction n with
  | zero => intro o x2 x3 x4 x5 x6 F res ho h hq; exact nomatch (show (none : Option _) = some _ from h)
  | succ n ih =>
    intro o x2 x3 x4 x5 x6 F res ho h hq
    refine s_iload (j := 5) dX10_solves_198 rfl ?_
    refine s_aload_n (j := 0) dX10_solves_200 rfl rfl ?_
    refine s_iconst dX10_solves_201 (cin rfl) ?_
    obtain ⟨r1, hv2, h⟩ := bnd h
    refine s_callV (As := [vI 5]) (rest := [vI x6]) (r := (some (vI r1))) (F' := F) dX10_solves_202 (clX10_181 (Nat.le_of_ble_eq_true rfl) (Nat.le_of_ble_eq_true rfl)) ho rfl ⟨_, _, _, rfl, ho, hv2, rfl, rfl⟩ rfl (Nat.le_of_ble_eq_true rfl) ?_
    refine s_icmp_ge (tgt := 225) dX10_solves_205 rfl (fun hc3 => ?_) (fun hc3 => ?_)
    · have h := ifp hc3 h
      refine s_iinc (ls' := [(4, vI (xw (x4 + 1))), (0, vR o), (2, vI x2), (3, vI x3), (5, vI x5), (6, vI x6)]) (j := 3) dX10_solves_225 rfl (Nat.le_of_ble_eq_true rfl) rfl ?_
      refine s_goto (tgt := 100) dX10_solves_228 rfl ?_
      exact s_sub (ks := [1, 2, 3, 0]) rfl (hk100 o x2 x3 (xw (x4 + 1)) F _ ho h hq)
    · have h := ifn hc3 h
      refine s_aload_n (j := 0) dX10_solves_208 rfl rfl ?_
      refine s_iload (j := 3) dX10_solves_209 rfl ?_
      refine s_iload (j := 5) dX10_solves_211 rfl ?_
      refine s_iload_n (j := 1) dX10_solves_213 rfl rfl ?_
      refine s_iload (j := 4) dX10_solves_214 rfl ?_
      obtain ⟨q4, hv5, h⟩ := bnd h
      refine s_callV (As := [vI x4, vI x6, vI x2, vI x5]) (rest := []) (r := none) (F' := q4) dX10_solves_216 (clX10_326 (Nat.le_of_ble_eq_true rfl) (Nat.le_of_ble_eq_true rfl)) ho rfl ⟨_, _, _, _, _, _, rfl, ho, hv5, rfl, rfl⟩ rfl (Nat.le_of_ble_eq_true rfl) ?_
      refine s_iinc (ls' := [(6, vI (xw (x6 + 1))), (0, vR o), (2, vI x2), (3, vI x3), (4, vI x4), (5, vI x5)]) (j := 5) dX10_solves_219 rfl (Nat.le_of_ble_eq_true rfl) rfl ?_
      refine s_goto (tgt := 198) dX10_solves_222 rfl ?_
      exact s_sub (ks := [1, 2, 3, 4, 5, 0]) rfl (ih o x2 x3 x4 x5 (xw (x6 + 1)) q4 _ ho h hq)
theorem fX10_solves_b148_ok {Qr : Option PV → Mem → Prop}  (k87 : Nat → Int → Mem → Option Mem) (k100 : Nat → Int → Int → Int → Mem → Option Mem) (hk87 : ∀ (o : Nat) (x2 : Int) (F : Mem) (res : Mem) (ho : isK o 10), k87 o x2 F = some res → Qr none res → PR cX10_solves (zX10_solves Qr) 87 [(0, vR o), (2, vI x2)] [] F) (hk100 : ∀ (o : Nat) (x2 : Int) (x3 : Int) (x4 : Int) (F : Mem) (res : Mem) (ho : isK o 10), k100 o x2 x3 x4 F = some res → Qr none res → PR cX10_solves (zX10_solves Qr) 100 [(0, vR o), (2, vI x2), (3, vI x3), (4, vI x4)] [] F) : ∀ (o : Nat) (x2 : Int) (x3 : Int) (x4 : Int) (x5 : Int) (F : Mem) (res : Mem) (ho : isK o 10), fX10_solves_b148 k87 k100 o x2 x3 x4 x5 F = some res → Qr none res → PR cX10_solves (zX10_solves Qr) 148 [(0, vR o), (2, vI x2), (3, vI x3), (4, vI x4), (5, vI x5)] [] F := by
  intro o x2 x3 x4 x5 F res ho h hq
  refine s_aload_n (j := 0) dX10_solves_148 rfl rfl ?_
  refine s_getR dX10_solves_149 flX10_45 ho ?_
  refine s_iload (j := 4) dX10_solves_152 rfl ?_
  refine s_bipush dX10_solves_154 rfl (cin rfl) ?_
  refine s_iadd dX10_solves_156 ?_
  obtain ⟨hb1, h⟩ := gd h
  refine s_iaload dX10_solves_157 (trX10_24 ho) hb1.1 hb1.2 ?_
  refine s_if_lt (tgt := 195) dX10_solves_158 rfl (fun hc2 => ?_) (fun hc2 => ?_)
  · have h := ifp hc2 h
    refine s_iconst dX10_solves_195 (cin rfl) ?_
    refine s_istore (ls' := [(6, vI 0), (0, vR o), (2, vI x2), (3, vI x3), (4, vI x4), (5, vI x5)]) dX10_solves_196 (Nat.le_of_ble_eq_true rfl) rfl ?_
    exact s_sub (ks := [1, 2, 3, 4, 5, 0]) rfl (fX10_solves_b198_ok k87 k100 hk87 hk100 FU o x2 x3 x4 x5 0 F _ ho h hq)
  · have h := ifn hc2 h
    refine s_aload_n (j := 0) dX10_solves_161 rfl rfl ?_
    refine s_aload_n (j := 0) dX10_solves_162 rfl rfl ?_
    refine s_getR dX10_solves_163 flX10_45 ho ?_
    refine s_iload (j := 4) dX10_solves_166 rfl ?_
    refine s_bipush dX10_solves_168 rfl (cin rfl) ?_
    refine s_iadd dX10_solves_170 ?_
    obtain ⟨hb3, h⟩ := gd h
    refine s_iaload dX10_solves_171 (trX10_24 ho) hb3.1 hb3.2 ?_
    refine s_aload_n (j := 0) dX10_solves_172 rfl rfl ?_
    refine s_iload (j := 3) dX10_solves_173 rfl ?_
    refine s_iload_n (j := 1) dX10_solves_175 rfl rfl ?_
    obtain ⟨r4, hv5, h⟩ := bnd h
    refine s_callV (As := [vI x4, vI x2]) (rest := [vI (F (o + 10) (xw (x5 + 8)).toNat), vR o]) (r := (some (vI r4))) (F' := F) dX10_solves_176 (clX10_319 (Nat.le_of_ble_eq_true rfl) (Nat.le_of_ble_eq_true rfl)) ho rfl ⟨_, _, _, _, rfl, ho, hv5, rfl, rfl⟩ rfl (Nat.le_of_ble_eq_true rfl) ?_
    refine s_iadd dX10_solves_179 ?_
    refine s_aload_n (j := 0) dX10_solves_180 rfl rfl ?_
    refine s_getR dX10_solves_181 flX10_48 ho ?_
    refine s_iload (j := 4) dX10_solves_184 rfl ?_
    refine s_bipush dX10_solves_186 rfl (cin rfl) ?_
    refine s_iadd dX10_solves_188 ?_
    obtain ⟨hb6, h⟩ := gd h
    refine s_iaload dX10_solves_189 (trX10_25 ho) hb6.1 hb6.2 ?_
    refine s_iload (j := 4) dX10_solves_190 rfl ?_
    obtain ⟨q7, hv8, h⟩ := bnd h
    refine s_callV (As := [vI (xw ((F (o + 10) (xw (x5 + 8)).toNat) + r4)), vI (F (o + 11) (xw (x5 + 8)).toNat), vI x5]) (rest := []) (r := none) (F' := q7) dX10_solves_192 (clX10_322 (Nat.le_of_ble_eq_true rfl) (Nat.le_of_ble_eq_true rfl)) ho rfl ⟨_, _, _, _, _, rfl, ho, hv8, rfl, rfl⟩ rfl (Nat.le_of_ble_eq_true rfl) ?_
    refine s_iconst dX10_solves_195 (cin rfl) ?_
    refine s_istore (ls' := [(6, vI 0), (0, vR o), (2, vI x2), (3, vI x3), (4, vI x4), (5, vI x5)]) dX10_solves_196 (Nat.le_of_ble_eq_true rfl) rfl ?_
    exact s_sub (ks := [1, 2, 3, 4, 5, 0]) rfl (fX10_solves_b198_ok k87 k100 hk87 hk100 FU o x2 x3 x4 x5 0 q7 _ ho h hq)
theorem fX10_solves_b100_ok {Qr : Option PV → Mem → Prop}  (k87 : Nat → Int → Mem → Option Mem) (hk87 : ∀ (o : Nat) (x2 : Int) (F : Mem) (res : Mem) (ho : isK o 10), k87 o x2 F = some res → Qr none res → PR cX10_solves (zX10_solves Qr) 87 [(0, vR o), (2, vI x2)] [] F) : ∀ (n : Nat) (o : Nat) (x2 : Int) (x3 : Int) (x4 : Int) (F : Mem) (res : Mem) (ho : isK o 10), fX10_solves_b100 k87 n o x2 x3 x4 F = some res → Qr none res → PR cX10_solves (zX10_solves Qr) 100 [(0, vR o), (2, vI x2), (3, vI x3), (4, vI x4)] [] F := by
  intro n
  induction n with
  | zero => intro o x2 x3 x4 F res ho h hq; exact nomatch (show (none : Option _) = some _ from h)
  | succ n ih =>
    intro o x2 x3 x4 F res ho h hq
    refine s_iload (j := 3) dX10_solves_100 rfl ?_
    refine s_aload_n (j := 0) dX10_solves_102 rfl rfl ?_
    refine s_iconst dX10_solves_103 (cin rfl) ?_
    obtain ⟨r1, hv2, h⟩ := bnd h
    refine s_callV (As := [vI 5]) (rest := [vI x4]) (r := (some (vI r1))) (F' := F) dX10_solves_104 (clX10_181 (Nat.le_of_ble_eq_true rfl) (Nat.le_of_ble_eq_true rfl)) ho rfl ⟨_, _, _, rfl, ho, hv2, rfl, rfl⟩ rfl (Nat.le_of_ble_eq_true rfl) ?_
    refine s_icmp_ge (tgt := 231) dX10_solves_107 rfl (fun hc3 => ?_) (fun hc3 => ?_)
    · have h := ifp hc3 h
      refine s_iinc (ls' := [(2, vI (xw (x2 + (-1)))), (0, vR o), (3, vI x3), (4, vI x4)]) (j := 1) dX10_solves_231 rfl (Nat.le_of_ble_eq_true rfl) rfl ?_
      refine s_goto (tgt := 87) dX10_solves_234 rfl ?_
      exact s_sub (ks := [1, 0]) rfl (hk87 o (xw (x2 + (-1))) F _ ho h hq)
    · have h := ifn hc3 h
      refine s_bipush dX10_solves_110 rfl (cin rfl) ?_
      refine s_iload_n (j := 1) dX10_solves_112 rfl rfl ?_
      refine s_imul dX10_solves_113 ?_
      refine s_iload (j := 3) dX10_solves_114 rfl ?_
      refine s_iadd dX10_solves_116 ?_
      refine s_istore (ls' := [(5, vI (xw ((xw (8 * x2)) + x4))), (0, vR o), (2, vI x2), (3, vI x3), (4, vI x4)]) dX10_solves_117 (Nat.le_of_ble_eq_true rfl) rfl ?_
      refine s_aload_n (j := 1) dX10_solves_119 rfl rfl ?_
      refine s_getR dX10_solves_120 flX10_45 ho ?_
      refine s_iload (j := 0) dX10_solves_123 rfl ?_
      refine s_ldcw dX10_solves_125 kcX10_318 (cin rfl) ?_
      obtain ⟨hb4, h⟩ := gd h
      refine s_iastore dX10_solves_128 (trX10_24 ho) hb4.1 hb4.2 ?_
      refine s_aload_n (j := 1) dX10_solves_129 rfl rfl ?_
      refine s_getR dX10_solves_130 flX10_48 ho ?_
      refine s_iload (j := 0) dX10_solves_133 rfl ?_
      refine s_iconst dX10_solves_135 (cin rfl) ?_
      obtain ⟨hb5, h⟩ := gd h
      refine s_iastore dX10_solves_136 (trX10_25 ho) hb5.1 hb5.2 ?_
      refine s_iload_n (j := 3) dX10_solves_137 rfl rfl ?_
      refine s_iconst dX10_solves_138 (cin rfl) ?_
      refine s_icmp_eq (tgt := 148) dX10_solves_139 rfl (fun hc6 => ?_) (fun hc6 => ?_)
      · have h := ifp hc6 h
        exact s_sub (ks := [1, 2, 3, 4, 0]) rfl (fX10_solves_b148_ok k87 (fX10_solves_b100 k87 n) hk87 ih o x2 x3 x4 (xw ((xw (8 * x2)) + x4)) (mset (mset F (o + 10) (xw ((xw (8 * x2)) + x4)).toNat (-1000000)) (o + 11) (xw ((xw (8 * x2)) + x4)).toNat 0) _ ho h hq)
      · have h := ifn hc6 h
        refine s_iload_n (j := 3) dX10_solves_142 rfl rfl ?_
        refine s_iload (j := 4) dX10_solves_143 rfl ?_
        refine s_icmp_ne (tgt := 195) dX10_solves_145 rfl (fun hc7 => ?_) (fun hc7 => ?_)
        · have h := ifp hc7 h
          refine s_iconst dX10_solves_195 (cin rfl) ?_
          refine s_istore (ls' := [(6, vI 0), (5, vI (xw ((xw (8 * x2)) + x4))), (0, vR o), (2, vI x2), (3, vI x3), (4, vI x4)]) dX10_solves_196 (Nat.le_of_ble_eq_true rfl) rfl ?_
          exact s_sub (ks := [2, 3, 4, 5, 1, 0]) rfl (fX10_solves_b198_ok k87 (fX10_solves_b100 k87 n) hk87 ih FU o x2 x3 x4 (xw ((xw (8 * x2)) + x4)) 0 (mset (mset F (o + 10) (xw ((xw (8 * x2)) + x4)).toNat (-1000000)) (o + 11) (xw ((xw (8 * x2)) + x4)).toNat 0) _ ho h hq)
        · have h := ifn hc7 h
          exact s_sub (ks := [1, 2, 3, 4, 0]) rfl (fX10_solves_b148_ok k87 (fX10_solves_b100 k87 n) hk87 ih o x2 x3 x4 (xw ((xw (8 * x2)) + x4)) (mset (mset F (o + 10) (xw ((xw (8 * x2)) + x4)).toNat (-1000000)) (o + 11) (xw ((xw (8 * x2)) + x4)).toNat 0) _ ho h hq)
theorem fX10_solves_b87_ok {Qr : Option PV → Mem → Prop}  : ∀ (n : Nat) (o : Nat) (x2 : Int) (F : Mem) (res : Mem) (ho : isK o 10), fX10_solves_b87 n o x2 F = some res → Qr none res → PR cX10_solves (zX10_solves Qr) 87 [(0, vR o), (2, vI x2)] [] F := by
  intro n
  induction n with
  | zero => intro o x2 F res ho h hq; exact nomatch (show (none : Option _) = some _ from h)
  | succ n ih =>
    intro o x2 F res ho h hq
    refine s_iload_n (j := 1) dX10_solves_87 rfl rfl ?_
    refine s_if_lt (tgt := 237) dX10_solves_88 rfl (fun hc1 => ?_) (fun hc1 => ?_)
    · have h := ifp hc1 h
      have h := Option.some.inj h
      subst h
      exact s_return dX10_solves_237 rfl hq
    · have h := ifn hc1 h
      refine s_aload_n (j := 0) dX10_solves_91 rfl rfl ?_
      refine s_iload_n (j := 1) dX10_solves_92 rfl rfl ?_
      obtain ⟨r2, hv3, h⟩ := bnd h
      refine s_callV (As := [vI x2]) (rest := []) (r := (some (vI r2))) (F' := F) dX10_solves_93 (clX10_312 (Nat.le_of_ble_eq_true rfl) (Nat.le_of_ble_eq_true rfl)) ho rfl ⟨_, _, _, rfl, ho, hv3, rfl, rfl⟩ rfl (Nat.le_of_ble_eq_true rfl) ?_
      refine s_istore_n (ls' := [(3, vI r2), (0, vR o), (2, vI x2)]) dX10_solves_96 rfl (Nat.le_of_ble_eq_true rfl) rfl ?_
      refine s_iconst dX10_solves_97 (cin rfl) ?_
      refine s_istore dX10_solves_98 (Nat.le_of_ble_eq_true rfl) rfl ?_
      exact s_sub (ks := [2, 3, 1, 0]) rfl (fX10_solves_b100_ok (fX10_solves_b87 n) ih FU o x2 r2 0 F _ ho h hq)
theorem fX10_solves_b13_ok {Qr : Option PV → Mem → Prop}  : ∀ (n : Nat) (o : Nat) (x2 : Int) (F : Mem) (res : Mem) (ho : isK o 10), fX10_solves_b13 n o x2 F = some res → Qr none res → PR cX10_solves (zX10_solves Qr) 13 [(0, vR o), (2, vI x2)] [] F := by
  intro n
  induction n with
  | zero => intro o x2 F res ho h hq; exact nomatch (show (none : Option _) = some _ from h)
  | succ n ih =>
    intro o x2 F res ho h hq
    refine s_iload_n (j := 1) dX10_solves_13 rfl rfl ?_
    refine s_aload_n (j := 0) dX10_solves_14 rfl rfl ?_
    refine s_iconst dX10_solves_15 (cin rfl) ?_
    obtain ⟨r1, hv2, h⟩ := bnd h
    refine s_callV (As := [vI 5]) (rest := [vI x2]) (r := (some (vI r1))) (F' := F) dX10_solves_16 (clX10_181 (Nat.le_of_ble_eq_true rfl) (Nat.le_of_ble_eq_true rfl)) ho rfl ⟨_, _, _, rfl, ho, hv2, rfl, rfl⟩ rfl (Nat.le_of_ble_eq_true rfl) ?_
    refine s_icmp_ge (tgt := 80) dX10_solves_19 rfl (fun hc3 => ?_) (fun hc3 => ?_)
    · have h := ifp hc3 h
      refine s_aload_n (j := 0) dX10_solves_80 rfl rfl ?_
      refine s_getI dX10_solves_81 flX10_315 ho ?_
      refine s_iconst dX10_solves_84 (cin rfl) ?_
      refine s_isub dX10_solves_85 ?_
      refine s_istore_n (ls' := [(2, vI (xw ((F o 27) - 1))), (0, vR o)]) dX10_solves_86 rfl (Nat.le_of_ble_eq_true rfl) rfl ?_
      exact s_sub (ks := [1, 0]) rfl (fX10_solves_b87_ok FU o (xw ((F o 27) - 1)) F _ ho h hq)
    · have h := ifn hc3 h
      refine s_aload_n (j := 0) dX10_solves_22 rfl rfl ?_
      refine s_getR dX10_solves_23 flX10_45 ho ?_
      refine s_bipush dX10_solves_26 rfl (cin rfl) ?_
      refine s_aload_n (j := 0) dX10_solves_28 rfl rfl ?_
      refine s_getI dX10_solves_29 flX10_315 ho ?_
      refine s_imul dX10_solves_32 ?_
      refine s_iload_n (j := 1) dX10_solves_33 rfl rfl ?_
      refine s_iadd dX10_solves_34 ?_
      refine s_aload_n (j := 0) dX10_solves_35 rfl rfl ?_
      refine s_getI dX10_solves_36 flX10_294 ho ?_
      refine s_if_eq (tgt := 57) dX10_solves_39 rfl (fun hc4 => ?_) (fun hc4 => ?_)
      · have h := ifp hc4 h
        refine s_iconst dX10_solves_57 (cin rfl) ?_
        obtain ⟨hb5, h⟩ := gd h
        refine s_iastore dX10_solves_58 (trX10_24 ho) hb5.1 hb5.2 ?_
        refine s_aload_n (j := 0) dX10_solves_59 rfl rfl ?_
        refine s_getR dX10_solves_60 flX10_48 ho ?_
        refine s_bipush dX10_solves_63 rfl (cin rfl) ?_
        refine s_aload_n (j := 0) dX10_solves_65 rfl rfl ?_
        refine s_getI dX10_solves_66 flX10_315 ho ?_
        refine s_imul dX10_solves_69 ?_
        refine s_iload_n (j := 1) dX10_solves_70 rfl rfl ?_
        refine s_iadd dX10_solves_71 ?_
        refine s_iconst dX10_solves_72 (cin rfl) ?_
        obtain ⟨hb6, h⟩ := gd h
        refine s_iastore dX10_solves_73 (trX10_25 ho) hb6.1 hb6.2 ?_
        refine s_iinc (ls' := [(2, vI (xw (x2 + 1))), (0, vR o)]) (j := 1) dX10_solves_74 rfl (Nat.le_of_ble_eq_true rfl) rfl ?_
        refine s_goto (tgt := 13) dX10_solves_77 rfl ?_
        exact s_sub (ks := [1, 0]) rfl (ih o (xw (x2 + 1)) (mset (mset F (o + 10) (xw ((xw (8 * (F o 27))) + x2)).toNat 0) (o + 11) (xw ((xw (8 * ((mset F (o + 10) (xw ((xw (8 * (F o 27))) + x2)).toNat 0) o 27))) + x2)).toNat 0) _ ho h hq)
      · have h := ifn hc4 h
        refine s_iload_n (j := 1) dX10_solves_42 rfl rfl ?_
        refine s_aload_n (j := 0) dX10_solves_43 rfl rfl ?_
        refine s_iconst dX10_solves_44 (cin rfl) ?_
        obtain ⟨r7, hv8, h⟩ := bnd h
        refine s_callV (As := [vI 4]) (rest := [vI x2, vI (xw ((xw (8 * (F o 27))) + x2)), vR (o + 10)]) (r := (some (vI r7))) (F' := F) dX10_solves_45 (clX10_181 (Nat.le_of_ble_eq_true rfl) (Nat.le_of_ble_eq_true rfl)) ho rfl ⟨_, _, _, rfl, ho, hv8, rfl, rfl⟩ rfl (Nat.le_of_ble_eq_true rfl) ?_
        refine s_icmp_eq (tgt := 57) dX10_solves_48 rfl (fun hc9 => ?_) (fun hc9 => ?_)
        · have h := ifp hc9 h
          refine s_iconst dX10_solves_57 (cin rfl) ?_
          obtain ⟨hb10, h⟩ := gd h
          refine s_iastore dX10_solves_58 (trX10_24 ho) hb10.1 hb10.2 ?_
          refine s_aload_n (j := 0) dX10_solves_59 rfl rfl ?_
          refine s_getR dX10_solves_60 flX10_48 ho ?_
          refine s_bipush dX10_solves_63 rfl (cin rfl) ?_
          refine s_aload_n (j := 0) dX10_solves_65 rfl rfl ?_
          refine s_getI dX10_solves_66 flX10_315 ho ?_
          refine s_imul dX10_solves_69 ?_
          refine s_iload_n (j := 1) dX10_solves_70 rfl rfl ?_
          refine s_iadd dX10_solves_71 ?_
          refine s_iconst dX10_solves_72 (cin rfl) ?_
          obtain ⟨hb11, h⟩ := gd h
          refine s_iastore dX10_solves_73 (trX10_25 ho) hb11.1 hb11.2 ?_
          refine s_iinc (ls' := [(2, vI (xw (x2 + 1))), (0, vR o)]) (j := 1) dX10_solves_74 rfl (Nat.le_of_ble_eq_true rfl) rfl ?_
          refine s_goto (tgt := 13) dX10_solves_77 rfl ?_
          exact s_sub (ks := [1, 0]) rfl (ih o (xw (x2 + 1)) (mset (mset F (o + 10) (xw ((xw (8 * (F o 27))) + x2)).toNat 0) (o + 11) (xw ((xw (8 * ((mset F (o + 10) (xw ((xw (8 * (F o 27))) + x2)).toNat 0) o 27))) + x2)).toNat 0) _ ho h hq)
        · have h := ifn hc9 h
          refine s_ldcw dX10_solves_51 kcX10_318 (cin rfl) ?_
          refine s_goto (tgt := 58) dX10_solves_54 rfl ?_
          obtain ⟨hb12, h⟩ := gd h
          refine s_iastore dX10_solves_58 (trX10_24 ho) hb12.1 hb12.2 ?_
          refine s_aload_n (j := 0) dX10_solves_59 rfl rfl ?_
          refine s_getR dX10_solves_60 flX10_48 ho ?_
          refine s_bipush dX10_solves_63 rfl (cin rfl) ?_
          refine s_aload_n (j := 0) dX10_solves_65 rfl rfl ?_
          refine s_getI dX10_solves_66 flX10_315 ho ?_
          refine s_imul dX10_solves_69 ?_
          refine s_iload_n (j := 1) dX10_solves_70 rfl rfl ?_
          refine s_iadd dX10_solves_71 ?_
          refine s_iconst dX10_solves_72 (cin rfl) ?_
          obtain ⟨hb13, h⟩ := gd h
          refine s_iastore dX10_solves_73 (trX10_25 ho) hb13.1 hb13.2 ?_
          refine s_iinc (ls' := [(2, vI (xw (x2 + 1))), (0, vR o)]) (j := 1) dX10_solves_74 rfl (Nat.le_of_ble_eq_true rfl) rfl ?_
          refine s_goto (tgt := 13) dX10_solves_77 rfl ?_
          exact s_sub (ks := [1, 0]) rfl (ih o (xw (x2 + 1)) (mset (mset F (o + 10) (xw ((xw (8 * (F o 27))) + x2)).toNat (-1000000)) (o + 11) (xw ((xw (8 * ((mset F (o + 10) (xw ((xw (8 * (F o 27))) + x2)).toNat (-1000000)) o 27))) + x2)).toNat 0) _ ho h hq)
theorem fX10_solves_ok {Qr : Option PV → Mem → Prop} : ∀ (o : Nat) (x1 : Int) (F : Mem) (res : Mem) (ho : isK o 10), fX10_solves o x1 F = some res → Qr none res → PR cX10_solves (zX10_solves Qr) 0 [(0, vR o), (1, vI x1)] [] F := by
  intro o x1 F res ho h hq
  refine s_aload_n (j := 0) dX10_solves_0 rfl rfl ?_
  refine s_iload_n (j := 1) dX10_solves_1 rfl rfl ?_
  refine s_aload_n (j := 0) dX10_solves_2 rfl rfl ?_
  refine s_iconst dX10_solves_3 (cin rfl) ?_
  obtain ⟨r1, hv2, h⟩ := bnd h
  refine s_callV (As := [vI 0]) (rest := [vI x1, vR o]) (r := (some (vI r1))) (F' := F) dX10_solves_4 (clX10_181 (Nat.le_of_ble_eq_true rfl) (Nat.le_of_ble_eq_true rfl)) ho rfl ⟨_, _, _, rfl, ho, hv2, rfl, rfl⟩ rfl (Nat.le_of_ble_eq_true rfl) ?_
  refine s_imul dX10_solves_7 ?_
  refine s_putI dX10_solves_8 flX10_315 fpX10_27 ho ?_
  refine s_iconst dX10_solves_11 (cin rfl) ?_
  refine s_istore_n (ls' := [(2, vI 0), (0, vR o), (1, vI x1)]) dX10_solves_12 rfl (Nat.le_of_ble_eq_true rfl) rfl ?_
  exact s_sub (ks := [1, 0]) rfl (fX10_solves_b13_ok FU o 0 (mset F o 27 (xw (x1 * r1))) _ ho h hq)
def gX10_solves : XG := fun As F r F' => ∃ o : Nat, ∃ x1 : Int, ∃ res : Mem, As = [vR o, vI x1] ∧ isK o 10 ∧ fX10_solves o x1 F = some res ∧ r = none ∧ F' = res
theorem ctX10_solves : xCT yX10_solves cX10_solves 7 (none) 4 95 gX10_solves := xmet (by decide +kernel) (fun As F r F' hg => by obtain ⟨o, x1, res, rfl, ho, h, rfl, rfl⟩ := hg; exact Nat.le_of_ble_eq_true rfl) (fun As F r F' hg => by obtain ⟨o, x1, res, rfl, ho, h, rfl, rfl⟩ := hg; exact fX10_solves_ok o x1 _ _ ho h ⟨rfl, rfl⟩)
theorem mcX10_solves : Cond.code yX10_solves cX10_solves 7 (none) ∈ xw_T ∧ Cond.initialized yX10_solves.cls ∈ xw_T ∧ Cond.instanceMethod yX10_solves ∈ xw_T ∧ Cond.selects yX10_solves.cls yX10_solves yX10_solves ∈ xw_T := ⟨(xinT 1760 (by decide +kernel) (by decide +kernel)), (xinT 127 (by decide +kernel) (by decide +kernel)), (xinT 1759 (by decide +kernel) (by decide +kernel)), (xinT 87 (by decide +kernel) (by decide +kernel))⟩
theorem clX10_349 {fr lo : Nat} (h1 : 4 + 1 ≤ fr) (h2 : 8 + (7 + 11) + 95 ≤ lo) : xCall RX10 fr lo 0 349 10 1 gX10_solves := ⟨_, _, _, _, _, _, ctX10_solves, h1, h2, mcX10_solves.1, (xinT 1757 (by decide +kernel) (by decide +kernel)), mcX10_solves.2.1, ⟨by decide +kernel, by decide +kernel, by decide +kernel⟩, by rw [if_pos rfl]; exact ⟨mcX10_solves.2.2.1, mcX10_solves.2.2.2, _, _, rfl⟩⟩
theorem dX10_gain_0 : decode cX10_gain 0 = .ok (.aload_n 0, 1) := by decide +kernel
theorem dX10_gain_1 : decode cX10_gain 1 = .ok (.getfield 45, 3) := by decide +kernel
theorem dX10_gain_4 : decode cX10_gain 4 = .ok (.aload_n 0, 1) := by decide +kernel
theorem dX10_gain_5 : decode cX10_gain 5 = .ok (.iconst 4, 1) := by decide +kernel
theorem dX10_gain_6 : decode cX10_gain 6 = .ok (.invokevirtual 181, 3) := by decide +kernel
theorem dX10_gain_9 : decode cX10_gain 9 = .ok (.iaload, 1) := by decide +kernel
theorem dX10_gain_10 : decode cX10_gain 10 = .ok (.ireturn, 1) := by decide +kernel
def zX10_gain (Qr : Option PV → Mem → Prop) : XZ := (RX10, 1, 21, 1, some FieldType.int, Qr)
noncomputable def fX10_gain (o : Nat) (F : Mem) : Option Int :=
  (fX10_of o 4 F).bind fun r1 =>
  if (0 : Int) ≤ r1 ∧ r1 < (alen (o + 10) : Int) then
    some (F (o + 10) r1.toNat)
  else none
theorem fX10_gain_ok {Qr : Option PV → Mem → Prop} : ∀ (o : Nat) (F : Mem) (res : Int) (ho : isK o 10), fX10_gain o F = some res → Qr (some (vI res)) F → PR cX10_gain (zX10_gain Qr) 0 [(0, vR o)] [] F := by
  intro o F res ho h hq
  refine s_aload_n (j := 0) dX10_gain_0 rfl rfl ?_
  refine s_getR dX10_gain_1 flX10_45 ho ?_
  refine s_aload_n (j := 0) dX10_gain_4 rfl rfl ?_
  refine s_iconst dX10_gain_5 (cin rfl) ?_
  obtain ⟨r1, hv2, h⟩ := bnd h
  refine s_callV (As := [vI 4]) (rest := [vR (o + 10)]) (r := (some (vI r1))) (F' := F) dX10_gain_6 (clX10_181 (Nat.le_of_ble_eq_true rfl) (Nat.le_of_ble_eq_true rfl)) ho rfl ⟨_, _, _, rfl, ho, hv2, rfl, rfl⟩ rfl (Nat.le_of_ble_eq_true rfl) ?_
  obtain ⟨hb3, h⟩ := gd h
  refine s_iaload dX10_gain_9 (trX10_24 ho) hb3.1 hb3.2 ?_
  have h := Option.some.inj h
  subst h
  exact s_ireturn dX10_gain_10 rfl hq
def gX10_gain : XG := fun As F r F' => ∃ o : Nat, ∃ res : Int, As = [vR o] ∧ isK o 10 ∧ fX10_gain o F = some res ∧ r = some (vI res) ∧ F' = F
theorem ctX10_gain : xCT yX10_gain cX10_gain 1 (some FieldType.int) 1 21 gX10_gain := xmet (by decide +kernel) (fun As F r F' hg => by obtain ⟨o, res, rfl, ho, h, rfl, rfl⟩ := hg; exact Nat.le_of_ble_eq_true rfl) (fun As F r F' hg => by obtain ⟨o, res, rfl, ho, h, rfl, rfl⟩ := hg; exact fX10_gain_ok o _ _ ho h ⟨rfl, rfl⟩)
theorem mcX10_gain : Cond.code yX10_gain cX10_gain 1 (some FieldType.int) ∈ xw_T ∧ Cond.initialized yX10_gain.cls ∈ xw_T ∧ Cond.instanceMethod yX10_gain ∈ xw_T ∧ Cond.selects yX10_gain.cls yX10_gain yX10_gain ∈ xw_T := ⟨(xinT 1789 (by decide +kernel) (by decide +kernel)), (xinT 127 (by decide +kernel) (by decide +kernel)), (xinT 1788 (by decide +kernel) (by decide +kernel)), (xinT 94 (by decide +kernel) (by decide +kernel))⟩
theorem clX10_352 {fr lo : Nat} (h1 : 1 + 1 ≤ fr) (h2 : 8 + (1 + 11) + 21 ≤ lo) : xCall RX10 fr lo 0 352 10 0 gX10_gain := ⟨_, _, _, _, _, _, ctX10_gain, h1, h2, mcX10_gain.1, (xinT 1786 (by decide +kernel) (by decide +kernel)), mcX10_gain.2.1, ⟨by decide +kernel, by decide +kernel, by decide +kernel⟩, by rw [if_pos rfl]; exact ⟨mcX10_gain.2.2.1, mcX10_gain.2.2.2, _, _, rfl⟩⟩
theorem dX10_isNext_0 : decode cX10_isNext 0 = .ok (.iload_n 3, 1) := by decide +kernel
theorem dX10_isNext_1 : decode cX10_isNext 1 = .ok (.aload_n 0, 1) := by decide +kernel
theorem dX10_isNext_2 : decode cX10_isNext 2 = .ok (.iload_n 1, 1) := by decide +kernel
theorem dX10_isNext_3 : decode cX10_isNext 3 = .ok (.iload_n 2, 1) := by decide +kernel
theorem dX10_isNext_4 : decode cX10_isNext 4 = .ok (.invokevirtual 199, 3) := by decide +kernel
theorem dX10_isNext_7 : decode cX10_isNext 7 = .ok (.iadd, 1) := by decide +kernel
theorem dX10_isNext_8 : decode cX10_isNext 8 = .ok (.istore 5, 2) := by decide +kernel
theorem dX10_isNext_10 : decode cX10_isNext 10 = .ok (.iload_n 2, 1) := by decide +kernel
theorem dX10_isNext_11 : decode cX10_isNext 11 = .ok (.iload_n 1, 1) := by decide +kernel
theorem dX10_isNext_12 : decode cX10_isNext 12 = .ok (.if_icmp .eq 77, 3) := by decide +kernel
theorem dX10_isNext_15 : decode cX10_isNext 15 = .ok (.iload 5, 2) := by decide +kernel
theorem dX10_isNext_17 : decode cX10_isNext 17 = .ok (.aload_n 0, 1) := by decide +kernel
theorem dX10_isNext_18 : decode cX10_isNext 18 = .ok (.getfield 315, 3) := by decide +kernel
theorem dX10_isNext_21 : decode cX10_isNext 21 = .ok (.if_icmp .gt 68, 3) := by decide +kernel
theorem dX10_isNext_24 : decode cX10_isNext 24 = .ok (.aload_n 0, 1) := by decide +kernel
theorem dX10_isNext_25 : decode cX10_isNext 25 = .ok (.iload_n 3, 1) := by decide +kernel
theorem dX10_isNext_26 : decode cX10_isNext 26 = .ok (.iload 5, 2) := by decide +kernel
theorem dX10_isNext_28 : decode cX10_isNext 28 = .ok (.invokevirtual 330, 3) := by decide +kernel
theorem dX10_isNext_31 : decode cX10_isNext 31 = .ok (.ifCond .eq 58, 3) := by decide +kernel
theorem dX10_isNext_34 : decode cX10_isNext 34 = .ok (.aload_n 0, 1) := by decide +kernel
theorem dX10_isNext_35 : decode cX10_isNext 35 = .ok (.getfield 45, 3) := by decide +kernel
theorem dX10_isNext_38 : decode cX10_isNext 38 = .ok (.bipush 8, 2) := by decide +kernel
theorem dX10_isNext_40 : decode cX10_isNext 40 = .ok (.iload 5, 2) := by decide +kernel
theorem dX10_isNext_42 : decode cX10_isNext 42 = .ok (.imul, 1) := by decide +kernel
theorem dX10_isNext_43 : decode cX10_isNext 43 = .ok (.iload_n 2, 1) := by decide +kernel
theorem dX10_isNext_44 : decode cX10_isNext 44 = .ok (.iadd, 1) := by decide +kernel
theorem dX10_isNext_45 : decode cX10_isNext 45 = .ok (.iaload, 1) := by decide +kernel
theorem dX10_isNext_46 : decode cX10_isNext 46 = .ok (.aload_n 0, 1) := by decide +kernel
theorem dX10_isNext_47 : decode cX10_isNext 47 = .ok (.getfield 45, 3) := by decide +kernel
theorem dX10_isNext_50 : decode cX10_isNext 50 = .ok (.iload 4, 2) := by decide +kernel
theorem dX10_isNext_52 : decode cX10_isNext 52 = .ok (.iaload, 1) := by decide +kernel
theorem dX10_isNext_53 : decode cX10_isNext 53 = .ok (.if_icmp .ne 36, 3) := by decide +kernel
theorem dX10_isNext_56 : decode cX10_isNext 56 = .ok (.aload_n 0, 1) := by decide +kernel
theorem dX10_isNext_57 : decode cX10_isNext 57 = .ok (.getfield 48, 3) := by decide +kernel
theorem dX10_isNext_60 : decode cX10_isNext 60 = .ok (.bipush 8, 2) := by decide +kernel
theorem dX10_isNext_62 : decode cX10_isNext 62 = .ok (.iload 5, 2) := by decide +kernel
theorem dX10_isNext_64 : decode cX10_isNext 64 = .ok (.imul, 1) := by decide +kernel
theorem dX10_isNext_65 : decode cX10_isNext 65 = .ok (.iload_n 2, 1) := by decide +kernel
theorem dX10_isNext_66 : decode cX10_isNext 66 = .ok (.iadd, 1) := by decide +kernel
theorem dX10_isNext_67 : decode cX10_isNext 67 = .ok (.iaload, 1) := by decide +kernel
theorem dX10_isNext_68 : decode cX10_isNext 68 = .ok (.aload_n 0, 1) := by decide +kernel
theorem dX10_isNext_69 : decode cX10_isNext 69 = .ok (.iload_n 1, 1) := by decide +kernel
theorem dX10_isNext_70 : decode cX10_isNext 70 = .ok (.iload_n 2, 1) := by decide +kernel
theorem dX10_isNext_71 : decode cX10_isNext 71 = .ok (.invokevirtual 192, 3) := by decide +kernel
theorem dX10_isNext_74 : decode cX10_isNext 74 = .ok (.iadd, 1) := by decide +kernel
theorem dX10_isNext_75 : decode cX10_isNext 75 = .ok (.aload_n 0, 1) := by decide +kernel
theorem dX10_isNext_76 : decode cX10_isNext 76 = .ok (.getfield 48, 3) := by decide +kernel
theorem dX10_isNext_79 : decode cX10_isNext 79 = .ok (.iload 4, 2) := by decide +kernel
theorem dX10_isNext_81 : decode cX10_isNext 81 = .ok (.iaload, 1) := by decide +kernel
theorem dX10_isNext_82 : decode cX10_isNext 82 = .ok (.if_icmp .ne 7, 3) := by decide +kernel
theorem dX10_isNext_85 : decode cX10_isNext 85 = .ok (.iconst 1, 1) := by decide +kernel
theorem dX10_isNext_86 : decode cX10_isNext 86 = .ok (.goto 4, 3) := by decide +kernel
theorem dX10_isNext_89 : decode cX10_isNext 89 = .ok (.iconst 0, 1) := by decide +kernel
theorem dX10_isNext_90 : decode cX10_isNext 90 = .ok (.ireturn, 1) := by decide +kernel
def zX10_isNext (Qr : Option PV → Mem → Prop) : XZ := (RX10, 3, 70, 6, some FieldType.boolean, Qr)
noncomputable def fX10_isNext (o : Nat) (x1 : Int) (x2 : Int) (x3 : Int) (x4 : Int) (F : Mem) : Option Int :=
  (fX10_slotsOf o x1 x2 F).bind fun r1 =>
  if x2 = x1 then
    some 0
  else
    if (F o 27) < (xw (x3 + r1)) then
      some 0
    else
      (fX10_areFreeOfMusts o x3 (xw (x3 + r1)) F).bind fun r5 =>
      if r5 = 0 then
        some 0
      else
        if (0 : Int) ≤ (xw ((xw (8 * (xw (x3 + r1)))) + x2)) ∧ (xw ((xw (8 * (xw (x3 + r1)))) + x2)) < (alen (o + 10) : Int) then
          if (0 : Int) ≤ x4 ∧ x4 < (alen (o + 10) : Int) then
            if (F (o + 10) (xw ((xw (8 * (xw (x3 + r1)))) + x2)).toNat) ≠ (F (o + 10) x4.toNat) then
              some 0
            else
              if (0 : Int) ≤ (xw ((xw (8 * (xw (x3 + r1)))) + x2)) ∧ (xw ((xw (8 * (xw (x3 + r1)))) + x2)) < (alen (o + 11) : Int) then
                (fX10_steps o x1 x2 F).bind fun r12 =>
                if (0 : Int) ≤ x4 ∧ x4 < (alen (o + 11) : Int) then
                  if (xw ((F (o + 11) (xw ((xw (8 * (xw (x3 + r1)))) + x2)).toNat) + r12)) ≠ (F (o + 11) x4.toNat) then
                    some 0
                  else
                    some 1
                else none
              else none
          else none
        else none
theorem fX10_isNext_ok {Qr : Option PV → Mem → Prop} : ∀ (o : Nat) (x1 : Int) (x2 : Int) (x3 : Int) (x4 : Int) (F : Mem) (res : Int) (ho : isK o 10), fX10_isNext o x1 x2 x3 x4 F = some res → Qr (some (vI res)) F → PR cX10_isNext (zX10_isNext Qr) 0 [(0, vR o), (1, vI x1), (2, vI x2), (3, vI x3), (4, vI x4)] [] F := by
  intro o x1 x2 x3 x4 F res ho h hq
  refine s_iload_n (j := 3) dX10_isNext_0 rfl rfl ?_
  refine s_aload_n (j := 0) dX10_isNext_1 rfl rfl ?_
  refine s_iload_n (j := 1) dX10_isNext_2 rfl rfl ?_
  refine s_iload_n (j := 2) dX10_isNext_3 rfl rfl ?_
  obtain ⟨r1, hv2, h⟩ := bnd h
  refine s_callV (As := [vI x1, vI x2]) (rest := [vI x3]) (r := (some (vI r1))) (F' := F) dX10_isNext_4 (clX10_199 (Nat.le_of_ble_eq_true rfl) (Nat.le_of_ble_eq_true rfl)) ho rfl ⟨_, _, _, _, rfl, ho, hv2, rfl, rfl⟩ rfl (Nat.le_of_ble_eq_true rfl) ?_
  refine s_iadd dX10_isNext_7 ?_
  refine s_istore (ls' := [(5, vI (xw (x3 + r1))), (0, vR o), (1, vI x1), (2, vI x2), (3, vI x3), (4, vI x4)]) dX10_isNext_8 (Nat.le_of_ble_eq_true rfl) rfl ?_
  refine s_iload_n (j := 3) dX10_isNext_10 rfl rfl ?_
  refine s_iload_n (j := 2) dX10_isNext_11 rfl rfl ?_
  refine s_icmp_eq (tgt := 89) dX10_isNext_12 rfl (fun hc3 => ?_) (fun hc3 => ?_)
  · have h := ifp hc3 h
    refine s_iconst dX10_isNext_89 (cin rfl) ?_
    have h := Option.some.inj h
    subst h
    exact s_zreturn dX10_isNext_90 rfl (Or.inl rfl) hq
  · have h := ifn hc3 h
    refine s_iload (j := 0) dX10_isNext_15 rfl ?_
    refine s_aload_n (j := 1) dX10_isNext_17 rfl rfl ?_
    refine s_getI dX10_isNext_18 flX10_315 ho ?_
    refine s_icmp_gt (tgt := 89) dX10_isNext_21 rfl (fun hc4 => ?_) (fun hc4 => ?_)
    · have h := ifp hc4 h
      refine s_iconst dX10_isNext_89 (cin rfl) ?_
      have h := Option.some.inj h
      subst h
      exact s_zreturn dX10_isNext_90 rfl (Or.inl rfl) hq
    · have h := ifn hc4 h
      refine s_aload_n (j := 1) dX10_isNext_24 rfl rfl ?_
      refine s_iload_n (j := 4) dX10_isNext_25 rfl rfl ?_
      refine s_iload (j := 0) dX10_isNext_26 rfl ?_
      obtain ⟨r5, hv6, h⟩ := bnd h
      refine s_callV (As := [vI x3, vI (xw (x3 + r1))]) (rest := []) (r := (some (vI r5))) (F' := F) dX10_isNext_28 (clX10_330 (Nat.le_of_ble_eq_true rfl) (Nat.le_of_ble_eq_true rfl)) ho rfl ⟨_, _, _, _, rfl, ho, hv6, rfl, rfl⟩ rfl (Nat.le_of_ble_eq_true rfl) ?_
      refine s_if_eq (tgt := 89) dX10_isNext_31 rfl (fun hc7 => ?_) (fun hc7 => ?_)
      · have h := ifp hc7 h
        refine s_iconst dX10_isNext_89 (cin rfl) ?_
        have h := Option.some.inj h
        subst h
        exact s_zreturn dX10_isNext_90 rfl (Or.inl rfl) hq
      · have h := ifn hc7 h
        refine s_aload_n (j := 1) dX10_isNext_34 rfl rfl ?_
        refine s_getR dX10_isNext_35 flX10_45 ho ?_
        refine s_bipush dX10_isNext_38 rfl (cin rfl) ?_
        refine s_iload (j := 0) dX10_isNext_40 rfl ?_
        refine s_imul dX10_isNext_42 ?_
        refine s_iload_n (j := 3) dX10_isNext_43 rfl rfl ?_
        refine s_iadd dX10_isNext_44 ?_
        obtain ⟨hb8, h⟩ := gd h
        refine s_iaload dX10_isNext_45 (trX10_24 ho) hb8.1 hb8.2 ?_
        refine s_aload_n (j := 1) dX10_isNext_46 rfl rfl ?_
        refine s_getR dX10_isNext_47 flX10_45 ho ?_
        refine s_iload (j := 5) dX10_isNext_50 rfl ?_
        obtain ⟨hb9, h⟩ := gd h
        refine s_iaload dX10_isNext_52 (trX10_24 ho) hb9.1 hb9.2 ?_
        refine s_icmp_ne (tgt := 89) dX10_isNext_53 rfl (fun hc10 => ?_) (fun hc10 => ?_)
        · have h := ifp hc10 h
          refine s_iconst dX10_isNext_89 (cin rfl) ?_
          have h := Option.some.inj h
          subst h
          exact s_zreturn dX10_isNext_90 rfl (Or.inl rfl) hq
        · have h := ifn hc10 h
          refine s_aload_n (j := 1) dX10_isNext_56 rfl rfl ?_
          refine s_getR dX10_isNext_57 flX10_48 ho ?_
          refine s_bipush dX10_isNext_60 rfl (cin rfl) ?_
          refine s_iload (j := 0) dX10_isNext_62 rfl ?_
          refine s_imul dX10_isNext_64 ?_
          refine s_iload_n (j := 3) dX10_isNext_65 rfl rfl ?_
          refine s_iadd dX10_isNext_66 ?_
          obtain ⟨hb11, h⟩ := gd h
          refine s_iaload dX10_isNext_67 (trX10_25 ho) hb11.1 hb11.2 ?_
          refine s_aload_n (j := 1) dX10_isNext_68 rfl rfl ?_
          refine s_iload_n (j := 2) dX10_isNext_69 rfl rfl ?_
          refine s_iload_n (j := 3) dX10_isNext_70 rfl rfl ?_
          obtain ⟨r12, hv13, h⟩ := bnd h
          refine s_callV (As := [vI x1, vI x2]) (rest := [vI (F (o + 11) (xw ((xw (8 * (xw (x3 + r1)))) + x2)).toNat)]) (r := (some (vI r12))) (F' := F) dX10_isNext_71 (clX10_192 (Nat.le_of_ble_eq_true rfl) (Nat.le_of_ble_eq_true rfl)) ho rfl ⟨_, _, _, _, rfl, ho, hv13, rfl, rfl⟩ rfl (Nat.le_of_ble_eq_true rfl) ?_
          refine s_iadd dX10_isNext_74 ?_
          refine s_aload_n (j := 1) dX10_isNext_75 rfl rfl ?_
          refine s_getR dX10_isNext_76 flX10_48 ho ?_
          refine s_iload (j := 5) dX10_isNext_79 rfl ?_
          obtain ⟨hb14, h⟩ := gd h
          refine s_iaload dX10_isNext_81 (trX10_25 ho) hb14.1 hb14.2 ?_
          refine s_icmp_ne (tgt := 89) dX10_isNext_82 rfl (fun hc15 => ?_) (fun hc15 => ?_)
          · have h := ifp hc15 h
            refine s_iconst dX10_isNext_89 (cin rfl) ?_
            have h := Option.some.inj h
            subst h
            exact s_zreturn dX10_isNext_90 rfl (Or.inl rfl) hq
          · have h := ifn hc15 h
            refine s_iconst dX10_isNext_85 (cin rfl) ?_
            refine s_goto (tgt := 90) dX10_isNext_86 rfl ?_
            have h := Option.some.inj h
            subst h
            exact s_zreturn dX10_isNext_90 rfl (Or.inr rfl) hq
def gX10_isNext : XG := fun As F r F' => ∃ o : Nat, ∃ x1 : Int, ∃ x2 : Int, ∃ x3 : Int, ∃ x4 : Int, ∃ res : Int, As = [vR o, vI x1, vI x2, vI x3, vI x4] ∧ isK o 10 ∧ fX10_isNext o x1 x2 x3 x4 F = some res ∧ r = some (vI res) ∧ F' = F
theorem ctX10_isNext : xCT yX10_isNext cX10_isNext 6 (some FieldType.boolean) 3 70 gX10_isNext := xmet (by decide +kernel) (fun As F r F' hg => by obtain ⟨o, x1, x2, x3, x4, res, rfl, ho, h, rfl, rfl⟩ := hg; exact Nat.le_of_ble_eq_true rfl) (fun As F r F' hg => by obtain ⟨o, x1, x2, x3, x4, res, rfl, ho, h, rfl, rfl⟩ := hg; exact fX10_isNext_ok o x1 x2 x3 x4 _ _ ho h ⟨rfl, rfl⟩)
theorem mcX10_isNext : Cond.code yX10_isNext cX10_isNext 6 (some FieldType.boolean) ∈ xw_T ∧ Cond.initialized yX10_isNext.cls ∈ xw_T ∧ Cond.instanceMethod yX10_isNext ∈ xw_T ∧ Cond.selects yX10_isNext.cls yX10_isNext yX10_isNext ∈ xw_T := ⟨(xinT 1801 (by decide +kernel) (by decide +kernel)), (xinT 127 (by decide +kernel) (by decide +kernel)), (xinT 1800 (by decide +kernel) (by decide +kernel)), (xinT 96 (by decide +kernel) (by decide +kernel))⟩
theorem clX10_342 {fr lo : Nat} (h1 : 3 + 1 ≤ fr) (h2 : 8 + (6 + 11) + 70 ≤ lo) : xCall RX10 fr lo 0 342 10 4 gX10_isNext := ⟨_, _, _, _, _, _, ctX10_isNext, h1, h2, mcX10_isNext.1, (xinT 1798 (by decide +kernel) (by decide +kernel)), mcX10_isNext.2.1, ⟨by decide +kernel, by decide +kernel, by decide +kernel⟩, by rw [if_pos rfl]; exact ⟨mcX10_isNext.2.2.1, mcX10_isNext.2.2.2, _, _, rfl⟩⟩
theorem dX10_walksTo_0 : decode cX10_walksTo 0 = .ok (.aload_n 0, 1) := by decide +kernel
theorem dX10_walksTo_1 : decode cX10_walksTo 1 = .ok (.iconst 4, 1) := by decide +kernel
theorem dX10_walksTo_2 : decode cX10_walksTo 2 = .ok (.invokevirtual 181, 3) := by decide +kernel
theorem dX10_walksTo_5 : decode cX10_walksTo 5 = .ok (.istore_n 2, 1) := by decide +kernel
theorem dX10_walksTo_6 : decode cX10_walksTo 6 = .ok (.iconst 0, 1) := by decide +kernel
theorem dX10_walksTo_7 : decode cX10_walksTo 7 = .ok (.istore_n 3, 1) := by decide +kernel
theorem dX10_walksTo_8 : decode cX10_walksTo 8 = .ok (.aload_n 0, 1) := by decide +kernel
theorem dX10_walksTo_9 : decode cX10_walksTo 9 = .ok (.iconst (-1), 1) := by decide +kernel
theorem dX10_walksTo_10 : decode cX10_walksTo 10 = .ok (.putfield 333, 3) := by decide +kernel
theorem dX10_walksTo_13 : decode cX10_walksTo 13 = .ok (.iload_n 3, 1) := by decide +kernel
theorem dX10_walksTo_14 : decode cX10_walksTo 14 = .ok (.iload_n 1, 1) := by decide +kernel
theorem dX10_walksTo_15 : decode cX10_walksTo 15 = .ok (.if_icmp .gt 180, 3) := by decide +kernel
theorem dX10_walksTo_18 : decode cX10_walksTo 18 = .ok (.bipush 8, 2) := by decide +kernel
theorem dX10_walksTo_20 : decode cX10_walksTo 20 = .ok (.iload_n 3, 1) := by decide +kernel
theorem dX10_walksTo_21 : decode cX10_walksTo 21 = .ok (.imul, 1) := by decide +kernel
theorem dX10_walksTo_22 : decode cX10_walksTo 22 = .ok (.iload_n 2, 1) := by decide +kernel
theorem dX10_walksTo_23 : decode cX10_walksTo 23 = .ok (.iadd, 1) := by decide +kernel
theorem dX10_walksTo_24 : decode cX10_walksTo 24 = .ok (.istore 4, 2) := by decide +kernel
theorem dX10_walksTo_26 : decode cX10_walksTo 26 = .ok (.aload_n 0, 1) := by decide +kernel
theorem dX10_walksTo_27 : decode cX10_walksTo 27 = .ok (.iload_n 3, 1) := by decide +kernel
theorem dX10_walksTo_28 : decode cX10_walksTo 28 = .ok (.invokevirtual 312, 3) := by decide +kernel
theorem dX10_walksTo_31 : decode cX10_walksTo 31 = .ok (.istore 5, 2) := by decide +kernel
theorem dX10_walksTo_33 : decode cX10_walksTo 33 = .ok (.iload 5, 2) := by decide +kernel
theorem dX10_walksTo_35 : decode cX10_walksTo 35 = .ok (.iconst (-1), 1) := by decide +kernel
theorem dX10_walksTo_36 : decode cX10_walksTo 36 = .ok (.if_icmp .eq 9, 3) := by decide +kernel
theorem dX10_walksTo_39 : decode cX10_walksTo 39 = .ok (.iload 5, 2) := by decide +kernel
theorem dX10_walksTo_41 : decode cX10_walksTo 41 = .ok (.iload_n 2, 1) := by decide +kernel
theorem dX10_walksTo_42 : decode cX10_walksTo 42 = .ok (.if_icmp .ne 67, 3) := by decide +kernel
theorem dX10_walksTo_45 : decode cX10_walksTo 45 = .ok (.aload_n 0, 1) := by decide +kernel
theorem dX10_walksTo_46 : decode cX10_walksTo 46 = .ok (.getfield 45, 3) := by decide +kernel
theorem dX10_walksTo_49 : decode cX10_walksTo 49 = .ok (.iload 4, 2) := by decide +kernel
theorem dX10_walksTo_51 : decode cX10_walksTo 51 = .ok (.bipush 8, 2) := by decide +kernel
theorem dX10_walksTo_53 : decode cX10_walksTo 53 = .ok (.iadd, 1) := by decide +kernel
theorem dX10_walksTo_54 : decode cX10_walksTo 54 = .ok (.iaload, 1) := by decide +kernel
theorem dX10_walksTo_55 : decode cX10_walksTo 55 = .ok (.ifCond .lt 54, 3) := by decide +kernel
theorem dX10_walksTo_58 : decode cX10_walksTo 58 = .ok (.aload_n 0, 1) := by decide +kernel
theorem dX10_walksTo_59 : decode cX10_walksTo 59 = .ok (.getfield 45, 3) := by decide +kernel
theorem dX10_walksTo_62 : decode cX10_walksTo 62 = .ok (.iload 4, 2) := by decide +kernel
theorem dX10_walksTo_64 : decode cX10_walksTo 64 = .ok (.bipush 8, 2) := by decide +kernel
theorem dX10_walksTo_66 : decode cX10_walksTo 66 = .ok (.iadd, 1) := by decide +kernel
theorem dX10_walksTo_67 : decode cX10_walksTo 67 = .ok (.iaload, 1) := by decide +kernel
theorem dX10_walksTo_68 : decode cX10_walksTo 68 = .ok (.aload_n 0, 1) := by decide +kernel
theorem dX10_walksTo_69 : decode cX10_walksTo 69 = .ok (.iload_n 2, 1) := by decide +kernel
theorem dX10_walksTo_70 : decode cX10_walksTo 70 = .ok (.iload_n 3, 1) := by decide +kernel
theorem dX10_walksTo_71 : decode cX10_walksTo 71 = .ok (.invokevirtual 319, 3) := by decide +kernel
theorem dX10_walksTo_74 : decode cX10_walksTo 74 = .ok (.iadd, 1) := by decide +kernel
theorem dX10_walksTo_75 : decode cX10_walksTo 75 = .ok (.aload_n 0, 1) := by decide +kernel
theorem dX10_walksTo_76 : decode cX10_walksTo 76 = .ok (.getfield 45, 3) := by decide +kernel
theorem dX10_walksTo_79 : decode cX10_walksTo 79 = .ok (.iload 4, 2) := by decide +kernel
theorem dX10_walksTo_81 : decode cX10_walksTo 81 = .ok (.iaload, 1) := by decide +kernel
theorem dX10_walksTo_82 : decode cX10_walksTo 82 = .ok (.if_icmp .ne 27, 3) := by decide +kernel
theorem dX10_walksTo_85 : decode cX10_walksTo 85 = .ok (.aload_n 0, 1) := by decide +kernel
theorem dX10_walksTo_86 : decode cX10_walksTo 86 = .ok (.getfield 48, 3) := by decide +kernel
theorem dX10_walksTo_89 : decode cX10_walksTo 89 = .ok (.iload 4, 2) := by decide +kernel
theorem dX10_walksTo_91 : decode cX10_walksTo 91 = .ok (.bipush 8, 2) := by decide +kernel
theorem dX10_walksTo_93 : decode cX10_walksTo 93 = .ok (.iadd, 1) := by decide +kernel
theorem dX10_walksTo_94 : decode cX10_walksTo 94 = .ok (.iaload, 1) := by decide +kernel
theorem dX10_walksTo_95 : decode cX10_walksTo 95 = .ok (.aload_n 0, 1) := by decide +kernel
theorem dX10_walksTo_96 : decode cX10_walksTo 96 = .ok (.getfield 48, 3) := by decide +kernel
theorem dX10_walksTo_99 : decode cX10_walksTo 99 = .ok (.iload 4, 2) := by decide +kernel
theorem dX10_walksTo_101 : decode cX10_walksTo 101 = .ok (.iaload, 1) := by decide +kernel
theorem dX10_walksTo_102 : decode cX10_walksTo 102 = .ok (.if_icmp .ne 7, 3) := by decide +kernel
theorem dX10_walksTo_105 : decode cX10_walksTo 105 = .ok (.iconst 1, 1) := by decide +kernel
theorem dX10_walksTo_106 : decode cX10_walksTo 106 = .ok (.goto 4, 3) := by decide +kernel
theorem dX10_walksTo_109 : decode cX10_walksTo 109 = .ok (.iconst 0, 1) := by decide +kernel
theorem dX10_walksTo_110 : decode cX10_walksTo 110 = .ok (.istore 6, 2) := by decide +kernel
theorem dX10_walksTo_112 : decode cX10_walksTo 112 = .ok (.aload_n 0, 1) := by decide +kernel
theorem dX10_walksTo_113 : decode cX10_walksTo 113 = .ok (.iload_n 2, 1) := by decide +kernel
theorem dX10_walksTo_114 : decode cX10_walksTo 114 = .ok (.putfield 333, 3) := by decide +kernel
theorem dX10_walksTo_117 : decode cX10_walksTo 117 = .ok (.aload_n 0, 1) := by decide +kernel
theorem dX10_walksTo_118 : decode cX10_walksTo 118 = .ok (.iload_n 2, 1) := by decide +kernel
theorem dX10_walksTo_119 : decode cX10_walksTo 119 = .ok (.putfield 336, 3) := by decide +kernel
theorem dX10_walksTo_122 : decode cX10_walksTo 122 = .ok (.aload_n 0, 1) := by decide +kernel
theorem dX10_walksTo_123 : decode cX10_walksTo 123 = .ok (.iload_n 3, 1) := by decide +kernel
theorem dX10_walksTo_124 : decode cX10_walksTo 124 = .ok (.putfield 339, 3) := by decide +kernel
theorem dX10_walksTo_127 : decode cX10_walksTo 127 = .ok (.iload 6, 2) := by decide +kernel
theorem dX10_walksTo_129 : decode cX10_walksTo 129 = .ok (.ifCond .eq 9, 3) := by decide +kernel
theorem dX10_walksTo_132 : decode cX10_walksTo 132 = .ok (.iinc 3 1, 3) := by decide +kernel
theorem dX10_walksTo_135 : decode cX10_walksTo 135 = .ok (.goto (-122), 3) := by decide +kernel
theorem dX10_walksTo_138 : decode cX10_walksTo 138 = .ok (.iconst 0, 1) := by decide +kernel
theorem dX10_walksTo_139 : decode cX10_walksTo 139 = .ok (.istore 7, 2) := by decide +kernel
theorem dX10_walksTo_141 : decode cX10_walksTo 141 = .ok (.aload_n 0, 1) := by decide +kernel
theorem dX10_walksTo_142 : decode cX10_walksTo 142 = .ok (.iload_n 2, 1) := by decide +kernel
theorem dX10_walksTo_143 : decode cX10_walksTo 143 = .ok (.iload 7, 2) := by decide +kernel
theorem dX10_walksTo_145 : decode cX10_walksTo 145 = .ok (.iload_n 3, 1) := by decide +kernel
theorem dX10_walksTo_146 : decode cX10_walksTo 146 = .ok (.iload 4, 2) := by decide +kernel
theorem dX10_walksTo_148 : decode cX10_walksTo 148 = .ok (.invokevirtual 342, 3) := by decide +kernel
theorem dX10_walksTo_151 : decode cX10_walksTo 151 = .ok (.ifCond .ne 9, 3) := by decide +kernel
theorem dX10_walksTo_154 : decode cX10_walksTo 154 = .ok (.iinc 7 1, 3) := by decide +kernel
theorem dX10_walksTo_157 : decode cX10_walksTo 157 = .ok (.goto (-16), 3) := by decide +kernel
theorem dX10_walksTo_160 : decode cX10_walksTo 160 = .ok (.aload_n 0, 1) := by decide +kernel
theorem dX10_walksTo_161 : decode cX10_walksTo 161 = .ok (.iconst (-1), 1) := by decide +kernel
theorem dX10_walksTo_162 : decode cX10_walksTo 162 = .ok (.putfield 333, 3) := by decide +kernel
theorem dX10_walksTo_165 : decode cX10_walksTo 165 = .ok (.aload_n 0, 1) := by decide +kernel
theorem dX10_walksTo_166 : decode cX10_walksTo 166 = .ok (.iload 7, 2) := by decide +kernel
theorem dX10_walksTo_168 : decode cX10_walksTo 168 = .ok (.putfield 336, 3) := by decide +kernel
theorem dX10_walksTo_171 : decode cX10_walksTo 171 = .ok (.aload_n 0, 1) := by decide +kernel
theorem dX10_walksTo_172 : decode cX10_walksTo 172 = .ok (.iload_n 3, 1) := by decide +kernel
theorem dX10_walksTo_173 : decode cX10_walksTo 173 = .ok (.aload_n 0, 1) := by decide +kernel
theorem dX10_walksTo_174 : decode cX10_walksTo 174 = .ok (.iload_n 2, 1) := by decide +kernel
theorem dX10_walksTo_175 : decode cX10_walksTo 175 = .ok (.iload 7, 2) := by decide +kernel
theorem dX10_walksTo_177 : decode cX10_walksTo 177 = .ok (.invokevirtual 199, 3) := by decide +kernel
theorem dX10_walksTo_180 : decode cX10_walksTo 180 = .ok (.iadd, 1) := by decide +kernel
theorem dX10_walksTo_181 : decode cX10_walksTo 181 = .ok (.putfield 339, 3) := by decide +kernel
theorem dX10_walksTo_184 : decode cX10_walksTo 184 = .ok (.aload_n 0, 1) := by decide +kernel
theorem dX10_walksTo_185 : decode cX10_walksTo 185 = .ok (.getfield 339, 3) := by decide +kernel
theorem dX10_walksTo_188 : decode cX10_walksTo 188 = .ok (.istore_n 3, 1) := by decide +kernel
theorem dX10_walksTo_189 : decode cX10_walksTo 189 = .ok (.iload 7, 2) := by decide +kernel
theorem dX10_walksTo_191 : decode cX10_walksTo 191 = .ok (.istore_n 2, 1) := by decide +kernel
theorem dX10_walksTo_192 : decode cX10_walksTo 192 = .ok (.goto (-179), 3) := by decide +kernel
theorem dX10_walksTo_195 : decode cX10_walksTo 195 = .ok (.return_, 1) := by decide +kernel
def zX10_walksTo (Qr : Option PV → Mem → Prop) : XZ := (RX10, 4, 95, 8, none, Qr)
noncomputable def fX10_walksTo_b141 (k13 : Nat → Int → Int → Int → Mem → Option Mem) : Nat → Nat → Int → Int → Int → Int → Int → Mem → Option Mem
  | 0, _, _, _, _, _, _, _ => none
  | n + 1, o, x1, x2, x3, x4, x7, F =>
    (fX10_isNext o x2 x7 x3 x4 F).bind fun r1 =>
    if r1 ≠ 0 then
      (fX10_slotsOf o x2 x7 (mset (mset F o 38 (-1)) o 39 x7)).bind fun r4 =>
      k13 o x1 x7 ((mset (mset (mset F o 38 (-1)) o 39 x7) o 40 (xw (x3 + r4))) o 40) (mset (mset (mset F o 38 (-1)) o 39 x7) o 40 (xw (x3 + r4)))
    else
      fX10_walksTo_b141 k13 n o x1 x2 x3 x4 (xw (x7 + 1)) F
noncomputable def fX10_walksTo_b110 (k13 : Nat → Int → Int → Int → Mem → Option Mem) (o : Nat) (x1 : Int) (x2 : Int) (x3 : Int) (x4 : Int) (s0 : Int) (F : Mem) : Option Mem :=
  if s0 = 0 then
    fX10_walksTo_b141 k13 FU o x1 x2 x3 x4 0 (mset (mset (mset F o 38 x2) o 39 x2) o 40 x3)
  else
    k13 o x1 x2 (xw (x3 + 1)) (mset (mset (mset F o 38 x2) o 39 x2) o 40 x3)
noncomputable def fX10_walksTo_b45 (k13 : Nat → Int → Int → Int → Mem → Option Mem) (o : Nat) (x1 : Int) (x2 : Int) (x3 : Int) (x4 : Int) (F : Mem) : Option Mem :=
  if (0 : Int) ≤ (xw (x4 + 8)) ∧ (xw (x4 + 8)) < (alen (o + 10) : Int) then
    if (F (o + 10) (xw (x4 + 8)).toNat) < 0 then
      fX10_walksTo_b110 k13 o x1 x2 x3 x4 0 F
    else
      if (0 : Int) ≤ (xw (x4 + 8)) ∧ (xw (x4 + 8)) < (alen (o + 10) : Int) then
        (fX10_gainIn o x2 x3 F).bind fun r4 =>
        if (0 : Int) ≤ x4 ∧ x4 < (alen (o + 10) : Int) then
          if (xw ((F (o + 10) (xw (x4 + 8)).toNat) + r4)) ≠ (F (o + 10) x4.toNat) then
            fX10_walksTo_b110 k13 o x1 x2 x3 x4 0 F
          else
            if (0 : Int) ≤ (xw (x4 + 8)) ∧ (xw (x4 + 8)) < (alen (o + 11) : Int) then
              if (0 : Int) ≤ x4 ∧ x4 < (alen (o + 11) : Int) then
                if (F (o + 11) (xw (x4 + 8)).toNat) ≠ (F (o + 11) x4.toNat) then
                  fX10_walksTo_b110 k13 o x1 x2 x3 x4 0 F
                else
                  fX10_walksTo_b110 k13 o x1 x2 x3 x4 1 F
              else none
            else none
        else none
      else none
  else none
noncomputable def fX10_walksTo_b13 : Nat → Nat → Int → Int → Int → Mem → Option Mem
  | 0, _, _, _, _, _ => none
  | n + 1, o, x1, x2, x3, F =>
    if x1 < x3 then
      some F
    else
      (fX10_mustIn o x3 F).bind fun r2 =>
      if r2 = (-1) then
        fX10_walksTo_b45 (fX10_walksTo_b13 n) o x1 x2 x3 (xw ((xw (8 * x3)) + x2)) F
      else
        if r2 ≠ x2 then
          fX10_walksTo_b110 (fX10_walksTo_b13 n) o x1 x2 x3 (xw ((xw (8 * x3)) + x2)) 0 F
        else
          fX10_walksTo_b45 (fX10_walksTo_b13 n) o x1 x2 x3 (xw ((xw (8 * x3)) + x2)) F
noncomputable def fX10_walksTo (o : Nat) (x1 : Int) (F : Mem) : Option Mem :=
  (fX10_of o 4 F).bind fun r1 =>
  fX10_walksTo_b13 FU o x1 r1 0 (mset F o 38 (-1))
theorem fX10_walksTo_b141_ok {Qr : Option PV → Mem → Prop}  (k13 : Nat → Int → Int → Int → Mem → Option Mem) (hk13 : ∀ (o : Nat) (x1 : Int) (x2 : Int) (x3 : Int) (F : Mem) (res : Mem) (ho : isK o 10), k13 o x1 x2 x3 F = some res → Qr none res → PR cX10_walksTo (zX10_walksTo Qr) 13 [(0, vR o), (1, vI x1), (2, vI x2), (3, vI x3)] [] F) : ∀ (n : Nat) (o : Nat) (x1 : Int) (x2 : Int) (x3 : Int) (x4 : Int) (x7 : Int) (F : Mem) (res : Mem) (ho : isK o 10), fX10_walksTo_b141 k13 n o x1 x2 x3 x4 x7 F = some res → Qr none res → PR cX10_walksTo (zX10_walksTo Qr) 141 [(0, vR o), (1, vI x1), (2, vI x2), (3, vI x3), (4, vI x4), (7, vI x7)] [] F := by
  intro n
  induction n with
  | zero => intro o x1 x2 x3 x4 x7 F res ho h hq; exact nomatch (show (none : Option _) = some _ from h)
  | succ n ih =>
    intro o x1 x2 x3 x4 x7 F res ho h hq
    refine s_aload_n (j := 0) dX10_walksTo_141 rfl rfl ?_
    refine s_iload_n (j := 2) dX10_walksTo_142 rfl rfl ?_
    refine s_iload (j := 5) dX10_walksTo_143 rfl ?_
    refine s_iload_n (j := 3) dX10_walksTo_145 rfl rfl ?_
    refine s_iload (j := 4) dX10_walksTo_146 rfl ?_
    obtain ⟨r1, hv2, h⟩ := bnd h
    refine s_callV (As := [vI x2, vI x7, vI x3, vI x4]) (rest := []) (r := (some (vI r1))) (F' := F) dX10_walksTo_148 (clX10_342 (Nat.le_of_ble_eq_true rfl) (Nat.le_of_ble_eq_true rfl)) ho rfl ⟨_, _, _, _, _, _, rfl, ho, hv2, rfl, rfl⟩ rfl (Nat.le_of_ble_eq_true rfl) ?_
    refine s_if_ne (tgt := 160) dX10_walksTo_151 rfl (fun hc3 => ?_) (fun hc3 => ?_)
    · have h := ifp hc3 h
      refine s_aload_n (j := 0) dX10_walksTo_160 rfl rfl ?_
      refine s_iconst dX10_walksTo_161 (cin rfl) ?_
      refine s_putI dX10_walksTo_162 flX10_333 fpX10_38 ho ?_
      refine s_aload_n (j := 0) dX10_walksTo_165 rfl rfl ?_
      refine s_iload (j := 5) dX10_walksTo_166 rfl ?_
      refine s_putI dX10_walksTo_168 flX10_336 fpX10_39 ho ?_
      refine s_aload_n (j := 0) dX10_walksTo_171 rfl rfl ?_
      refine s_iload_n (j := 3) dX10_walksTo_172 rfl rfl ?_
      refine s_aload_n (j := 0) dX10_walksTo_173 rfl rfl ?_
      refine s_iload_n (j := 2) dX10_walksTo_174 rfl rfl ?_
      refine s_iload (j := 5) dX10_walksTo_175 rfl ?_
      obtain ⟨r4, hv5, h⟩ := bnd h
      refine s_callV (As := [vI x2, vI x7]) (rest := [vI x3, vR o]) (r := (some (vI r4))) (F' := mset (mset F o 38 (-1)) o 39 x7) dX10_walksTo_177 (clX10_199 (Nat.le_of_ble_eq_true rfl) (Nat.le_of_ble_eq_true rfl)) ho rfl ⟨_, _, _, _, rfl, ho, hv5, rfl, rfl⟩ rfl (Nat.le_of_ble_eq_true rfl) ?_
      refine s_iadd dX10_walksTo_180 ?_
      refine s_putI dX10_walksTo_181 flX10_339 fpX10_40 ho ?_
      refine s_aload_n (j := 0) dX10_walksTo_184 rfl rfl ?_
      refine s_getI dX10_walksTo_185 flX10_339 ho ?_
      refine s_istore_n (ls' := [(3, vI ((mset (mset (mset F o 38 (-1)) o 39 x7) o 40 (xw (x3 + r4))) o 40)), (0, vR o), (1, vI x1), (2, vI x2), (4, vI x4), (7, vI x7)]) dX10_walksTo_188 rfl (Nat.le_of_ble_eq_true rfl) rfl ?_
      refine s_iload (j := 5) dX10_walksTo_189 rfl ?_
      refine s_istore_n dX10_walksTo_191 rfl (Nat.le_of_ble_eq_true rfl) rfl ?_
      refine s_goto (tgt := 13) dX10_walksTo_192 rfl ?_
      exact s_sub (ks := [2, 3, 0, 1]) rfl (hk13 o x1 x7 ((mset (mset (mset F o 38 (-1)) o 39 x7) o 40 (xw (x3 + r4))) o 40) (mset (mset (mset F o 38 (-1)) o 39 x7) o 40 (xw (x3 + r4))) _ ho h hq)
    · have h := ifn hc3 h
      refine s_iinc (ls' := [(7, vI (xw (x7 + 1))), (0, vR o), (1, vI x1), (2, vI x2), (3, vI x3), (4, vI x4)]) (j := 5) dX10_walksTo_154 rfl (Nat.le_of_ble_eq_true rfl) rfl ?_
      refine s_goto (tgt := 141) dX10_walksTo_157 rfl ?_
      exact s_sub (ks := [1, 2, 3, 4, 5, 0]) rfl (ih o x1 x2 x3 x4 (xw (x7 + 1)) F _ ho h hq)
theorem fX10_walksTo_b110_ok {Qr : Option PV → Mem → Prop}  (k13 : Nat → Int → Int → Int → Mem → Option Mem) (hk13 : ∀ (o : Nat) (x1 : Int) (x2 : Int) (x3 : Int) (F : Mem) (res : Mem) (ho : isK o 10), k13 o x1 x2 x3 F = some res → Qr none res → PR cX10_walksTo (zX10_walksTo Qr) 13 [(0, vR o), (1, vI x1), (2, vI x2), (3, vI x3)] [] F) : ∀ (o : Nat) (x1 : Int) (x2 : Int) (x3 : Int) (x4 : Int) (s0 : Int) (F : Mem) (res : Mem) (ho : isK o 10), fX10_walksTo_b110 k13 o x1 x2 x3 x4 s0 F = some res → Qr none res → PR cX10_walksTo (zX10_walksTo Qr) 110 [(0, vR o), (1, vI x1), (2, vI x2), (3, vI x3), (4, vI x4)] [vI s0] F := by
  intro o x1 x2 x3 x4 s0 F res ho h hq
  refine s_istore (ls' := [(6, vI s0), (0, vR o), (1, vI x1), (2, vI x2), (3, vI x3), (4, vI x4)]) dX10_walksTo_110 (Nat.le_of_ble_eq_true rfl) rfl ?_
  refine s_aload_n (j := 1) dX10_walksTo_112 rfl rfl ?_
  refine s_iload_n (j := 3) dX10_walksTo_113 rfl rfl ?_
  refine s_putI dX10_walksTo_114 flX10_333 fpX10_38 ho ?_
  refine s_aload_n (j := 1) dX10_walksTo_117 rfl rfl ?_
  refine s_iload_n (j := 3) dX10_walksTo_118 rfl rfl ?_
  refine s_putI dX10_walksTo_119 flX10_336 fpX10_39 ho ?_
  refine s_aload_n (j := 1) dX10_walksTo_122 rfl rfl ?_
  refine s_iload_n (j := 4) dX10_walksTo_123 rfl rfl ?_
  refine s_putI dX10_walksTo_124 flX10_339 fpX10_40 ho ?_
  refine s_iload (j := 0) dX10_walksTo_127 rfl ?_
  refine s_if_eq (tgt := 138) dX10_walksTo_129 rfl (fun hc1 => ?_) (fun hc1 => ?_)
  · have h := ifp hc1 h
    refine s_iconst dX10_walksTo_138 (cin rfl) ?_
    refine s_istore (ls' := [(7, vI 0), (6, vI s0), (0, vR o), (1, vI x1), (2, vI x2), (3, vI x3), (4, vI x4)]) dX10_walksTo_139 (Nat.le_of_ble_eq_true rfl) rfl ?_
    exact s_sub (ks := [2, 3, 4, 5, 6, 0]) rfl (fX10_walksTo_b141_ok k13 hk13 FU o x1 x2 x3 x4 0 (mset (mset (mset F o 38 x2) o 39 x2) o 40 x3) _ ho h hq)
  · have h := ifn hc1 h
    refine s_iinc (ls' := [(3, vI (xw (x3 + 1))), (6, vI s0), (0, vR o), (1, vI x1), (2, vI x2), (4, vI x4)]) (j := 4) dX10_walksTo_132 rfl (Nat.le_of_ble_eq_true rfl) rfl ?_
    refine s_goto (tgt := 13) dX10_walksTo_135 rfl ?_
    exact s_sub (ks := [2, 3, 4, 0]) rfl (hk13 o x1 x2 (xw (x3 + 1)) (mset (mset (mset F o 38 x2) o 39 x2) o 40 x3) _ ho h hq)
theorem fX10_walksTo_b45_ok {Qr : Option PV → Mem → Prop}  (k13 : Nat → Int → Int → Int → Mem → Option Mem) (hk13 : ∀ (o : Nat) (x1 : Int) (x2 : Int) (x3 : Int) (F : Mem) (res : Mem) (ho : isK o 10), k13 o x1 x2 x3 F = some res → Qr none res → PR cX10_walksTo (zX10_walksTo Qr) 13 [(0, vR o), (1, vI x1), (2, vI x2), (3, vI x3)] [] F) : ∀ (o : Nat) (x1 : Int) (x2 : Int) (x3 : Int) (x4 : Int) (F : Mem) (res : Mem) (ho : isK o 10), fX10_walksTo_b45 k13 o x1 x2 x3 x4 F = some res → Qr none res → PR cX10_walksTo (zX10_walksTo Qr) 45 [(0, vR o), (1, vI x1), (2, vI x2), (3, vI x3), (4, vI x4)] [] F := by
  intro o x1 x2 x3 x4 F res ho h hq
  refine s_aload_n (j := 0) dX10_walksTo_45 rfl rfl ?_
  refine s_getR dX10_walksTo_46 flX10_45 ho ?_
  refine s_iload (j := 4) dX10_walksTo_49 rfl ?_
  refine s_bipush dX10_walksTo_51 rfl (cin rfl) ?_
  refine s_iadd dX10_walksTo_53 ?_
  obtain ⟨hb1, h⟩ := gd h
  refine s_iaload dX10_walksTo_54 (trX10_24 ho) hb1.1 hb1.2 ?_
  refine s_if_lt (tgt := 109) dX10_walksTo_55 rfl (fun hc2 => ?_) (fun hc2 => ?_)
  · have h := ifp hc2 h
    refine s_iconst dX10_walksTo_109 (cin rfl) ?_
    exact s_sub (ks := [0, 1, 2, 3, 4]) rfl (fX10_walksTo_b110_ok k13 hk13 o x1 x2 x3 x4 0 F _ ho h hq)
  · have h := ifn hc2 h
    refine s_aload_n (j := 0) dX10_walksTo_58 rfl rfl ?_
    refine s_getR dX10_walksTo_59 flX10_45 ho ?_
    refine s_iload (j := 4) dX10_walksTo_62 rfl ?_
    refine s_bipush dX10_walksTo_64 rfl (cin rfl) ?_
    refine s_iadd dX10_walksTo_66 ?_
    obtain ⟨hb3, h⟩ := gd h
    refine s_iaload dX10_walksTo_67 (trX10_24 ho) hb3.1 hb3.2 ?_
    refine s_aload_n (j := 0) dX10_walksTo_68 rfl rfl ?_
    refine s_iload_n (j := 2) dX10_walksTo_69 rfl rfl ?_
    refine s_iload_n (j := 3) dX10_walksTo_70 rfl rfl ?_
    obtain ⟨r4, hv5, h⟩ := bnd h
    refine s_callV (As := [vI x2, vI x3]) (rest := [vI (F (o + 10) (xw (x4 + 8)).toNat)]) (r := (some (vI r4))) (F' := F) dX10_walksTo_71 (clX10_319 (Nat.le_of_ble_eq_true rfl) (Nat.le_of_ble_eq_true rfl)) ho rfl ⟨_, _, _, _, rfl, ho, hv5, rfl, rfl⟩ rfl (Nat.le_of_ble_eq_true rfl) ?_
    refine s_iadd dX10_walksTo_74 ?_
    refine s_aload_n (j := 0) dX10_walksTo_75 rfl rfl ?_
    refine s_getR dX10_walksTo_76 flX10_45 ho ?_
    refine s_iload (j := 4) dX10_walksTo_79 rfl ?_
    obtain ⟨hb6, h⟩ := gd h
    refine s_iaload dX10_walksTo_81 (trX10_24 ho) hb6.1 hb6.2 ?_
    refine s_icmp_ne (tgt := 109) dX10_walksTo_82 rfl (fun hc7 => ?_) (fun hc7 => ?_)
    · have h := ifp hc7 h
      refine s_iconst dX10_walksTo_109 (cin rfl) ?_
      exact s_sub (ks := [0, 1, 2, 3, 4]) rfl (fX10_walksTo_b110_ok k13 hk13 o x1 x2 x3 x4 0 F _ ho h hq)
    · have h := ifn hc7 h
      refine s_aload_n (j := 0) dX10_walksTo_85 rfl rfl ?_
      refine s_getR dX10_walksTo_86 flX10_48 ho ?_
      refine s_iload (j := 4) dX10_walksTo_89 rfl ?_
      refine s_bipush dX10_walksTo_91 rfl (cin rfl) ?_
      refine s_iadd dX10_walksTo_93 ?_
      obtain ⟨hb8, h⟩ := gd h
      refine s_iaload dX10_walksTo_94 (trX10_25 ho) hb8.1 hb8.2 ?_
      refine s_aload_n (j := 0) dX10_walksTo_95 rfl rfl ?_
      refine s_getR dX10_walksTo_96 flX10_48 ho ?_
      refine s_iload (j := 4) dX10_walksTo_99 rfl ?_
      obtain ⟨hb9, h⟩ := gd h
      refine s_iaload dX10_walksTo_101 (trX10_25 ho) hb9.1 hb9.2 ?_
      refine s_icmp_ne (tgt := 109) dX10_walksTo_102 rfl (fun hc10 => ?_) (fun hc10 => ?_)
      · have h := ifp hc10 h
        refine s_iconst dX10_walksTo_109 (cin rfl) ?_
        exact s_sub (ks := [0, 1, 2, 3, 4]) rfl (fX10_walksTo_b110_ok k13 hk13 o x1 x2 x3 x4 0 F _ ho h hq)
      · have h := ifn hc10 h
        refine s_iconst dX10_walksTo_105 (cin rfl) ?_
        refine s_goto (tgt := 110) dX10_walksTo_106 rfl ?_
        exact s_sub (ks := [0, 1, 2, 3, 4]) rfl (fX10_walksTo_b110_ok k13 hk13 o x1 x2 x3 x4 1 F _ ho h hq)
theorem fX10_walksTo_b13_ok {Qr : Option PV → Mem → Prop}  : ∀ (n : Nat) (o : Nat) (x1 : Int) (x2 : Int) (x3 : Int) (F : Mem) (res : Mem) (ho : isK o 10), fX10_walksTo_b13 n o x1 x2 x3 F = some res → Qr none res → PR cX10_walksTo (zX10_walksTo Qr) 13 [(0, vR o), (1, vI x1), (2, vI x2), (3, vI x3)] [] F := by
  intro n
  induction n with
  | zero => intro o x1 x2 x3 F res ho h hq; exact nomatch (show (none : Option _) = some _ from h)
  | succ n ih =>
    intro o x1 x2 x3 F res ho h hq
    refine s_iload_n (j := 3) dX10_walksTo_13 rfl rfl ?_
    refine s_iload_n (j := 1) dX10_walksTo_14 rfl rfl ?_
    refine s_icmp_gt (tgt := 195) dX10_walksTo_15 rfl (fun hc1 => ?_) (fun hc1 => ?_)
    · have h := ifp hc1 h
      have h := Option.some.inj h
      subst h
      exact s_return dX10_walksTo_195 rfl hq
    · have h := ifn hc1 h
      refine s_bipush dX10_walksTo_18 rfl (cin rfl) ?_
      refine s_iload_n (j := 3) dX10_walksTo_20 rfl rfl ?_
      refine s_imul dX10_walksTo_21 ?_
      refine s_iload_n (j := 2) dX10_walksTo_22 rfl rfl ?_
      refine s_iadd dX10_walksTo_23 ?_
      refine s_istore (ls' := [(4, vI (xw ((xw (8 * x3)) + x2))), (0, vR o), (1, vI x1), (2, vI x2), (3, vI x3)]) dX10_walksTo_24 (Nat.le_of_ble_eq_true rfl) rfl ?_
      refine s_aload_n (j := 1) dX10_walksTo_26 rfl rfl ?_
      refine s_iload_n (j := 4) dX10_walksTo_27 rfl rfl ?_
      obtain ⟨r2, hv3, h⟩ := bnd h
      refine s_callV (As := [vI x3]) (rest := []) (r := (some (vI r2))) (F' := F) dX10_walksTo_28 (clX10_312 (Nat.le_of_ble_eq_true rfl) (Nat.le_of_ble_eq_true rfl)) ho rfl ⟨_, _, _, rfl, ho, hv3, rfl, rfl⟩ rfl (Nat.le_of_ble_eq_true rfl) ?_
      refine s_istore dX10_walksTo_31 (Nat.le_of_ble_eq_true rfl) rfl ?_
      refine s_iload (j := 0) dX10_walksTo_33 rfl ?_
      refine s_iconst dX10_walksTo_35 (cin rfl) ?_
      refine s_icmp_eq (tgt := 45) dX10_walksTo_36 rfl (fun hc4 => ?_) (fun hc4 => ?_)
      · have h := ifp hc4 h
        exact s_sub (ks := [2, 3, 4, 5, 1]) rfl (fX10_walksTo_b45_ok (fX10_walksTo_b13 n) ih o x1 x2 x3 (xw ((xw (8 * x3)) + x2)) F _ ho h hq)
      · have h := ifn hc4 h
        refine s_iload (j := 0) dX10_walksTo_39 rfl ?_
        refine s_iload_n (j := 4) dX10_walksTo_41 rfl rfl ?_
        refine s_icmp_ne (tgt := 109) dX10_walksTo_42 rfl (fun hc5 => ?_) (fun hc5 => ?_)
        · have h := ifp hc5 h
          refine s_iconst dX10_walksTo_109 (cin rfl) ?_
          exact s_sub (ks := [2, 3, 4, 5, 1]) rfl (fX10_walksTo_b110_ok (fX10_walksTo_b13 n) ih o x1 x2 x3 (xw ((xw (8 * x3)) + x2)) 0 F _ ho h hq)
        · have h := ifn hc5 h
          exact s_sub (ks := [2, 3, 4, 5, 1]) rfl (fX10_walksTo_b45_ok (fX10_walksTo_b13 n) ih o x1 x2 x3 (xw ((xw (8 * x3)) + x2)) F _ ho h hq)
theorem fX10_walksTo_ok {Qr : Option PV → Mem → Prop} : ∀ (o : Nat) (x1 : Int) (F : Mem) (res : Mem) (ho : isK o 10), fX10_walksTo o x1 F = some res → Qr none res → PR cX10_walksTo (zX10_walksTo Qr) 0 [(0, vR o), (1, vI x1)] [] F := by
  intro o x1 F res ho h hq
  refine s_aload_n (j := 0) dX10_walksTo_0 rfl rfl ?_
  refine s_iconst dX10_walksTo_1 (cin rfl) ?_
  obtain ⟨r1, hv2, h⟩ := bnd h
  refine s_callV (As := [vI 4]) (rest := []) (r := (some (vI r1))) (F' := F) dX10_walksTo_2 (clX10_181 (Nat.le_of_ble_eq_true rfl) (Nat.le_of_ble_eq_true rfl)) ho rfl ⟨_, _, _, rfl, ho, hv2, rfl, rfl⟩ rfl (Nat.le_of_ble_eq_true rfl) ?_
  refine s_istore_n (ls' := [(2, vI r1), (0, vR o), (1, vI x1)]) dX10_walksTo_5 rfl (Nat.le_of_ble_eq_true rfl) rfl ?_
  refine s_iconst dX10_walksTo_6 (cin rfl) ?_
  refine s_istore_n dX10_walksTo_7 rfl (Nat.le_of_ble_eq_true rfl) rfl ?_
  refine s_aload_n (j := 2) dX10_walksTo_8 rfl rfl ?_
  refine s_iconst dX10_walksTo_9 (cin rfl) ?_
  refine s_putI dX10_walksTo_10 flX10_333 fpX10_38 ho ?_
  exact s_sub (ks := [2, 3, 1, 0]) rfl (fX10_walksTo_b13_ok FU o x1 r1 0 (mset F o 38 (-1)) _ ho h hq)
def gX10_walksTo : XG := fun As F r F' => ∃ o : Nat, ∃ x1 : Int, ∃ res : Mem, As = [vR o, vI x1] ∧ isK o 10 ∧ fX10_walksTo o x1 F = some res ∧ r = none ∧ F' = res
theorem ctX10_walksTo : xCT yX10_walksTo cX10_walksTo 8 (none) 4 95 gX10_walksTo := xmet (by decide +kernel) (fun As F r F' hg => by obtain ⟨o, x1, res, rfl, ho, h, rfl, rfl⟩ := hg; exact Nat.le_of_ble_eq_true rfl) (fun As F r F' hg => by obtain ⟨o, x1, res, rfl, ho, h, rfl, rfl⟩ := hg; exact fX10_walksTo_ok o x1 _ _ ho h ⟨rfl, rfl⟩)
theorem mcX10_walksTo : Cond.code yX10_walksTo cX10_walksTo 8 (none) ∈ xw_T ∧ Cond.initialized yX10_walksTo.cls ∈ xw_T ∧ Cond.instanceMethod yX10_walksTo ∈ xw_T ∧ Cond.selects yX10_walksTo.cls yX10_walksTo yX10_walksTo ∈ xw_T := ⟨(xinT 1797 (by decide +kernel) (by decide +kernel)), (xinT 127 (by decide +kernel) (by decide +kernel)), (xinT 1796 (by decide +kernel) (by decide +kernel)), (xinT 95 (by decide +kernel) (by decide +kernel))⟩
theorem clX10_359 {fr lo : Nat} (h1 : 4 + 1 ≤ fr) (h2 : 8 + (8 + 11) + 95 ≤ lo) : xCall RX10 fr lo 0 359 10 1 gX10_walksTo := ⟨_, _, _, _, _, _, ctX10_walksTo, h1, h2, mcX10_walksTo.1, (xinT 1794 (by decide +kernel) (by decide +kernel)), mcX10_walksTo.2.1, ⟨by decide +kernel, by decide +kernel, by decide +kernel⟩, by rw [if_pos rfl]; exact ⟨mcX10_walksTo.2.2.1, mcX10_walksTo.2.2.2, _, _, rfl⟩⟩
theorem dX10_isAsked_0 : decode cX10_isAsked 0 = .ok (.iload 4, 2) := by decide +kernel
theorem dX10_isAsked_2 : decode cX10_isAsked 2 = .ok (.iconst 0, 1) := by decide +kernel
theorem dX10_isAsked_3 : decode cX10_isAsked 3 = .ok (.bipush 6, 2) := by decide +kernel
theorem dX10_isAsked_5 : decode cX10_isAsked 5 = .ok (.invokestatic 115, 3) := by decide +kernel
theorem dX10_isAsked_8 : decode cX10_isAsked 8 = .ok (.ifCond .eq 31, 3) := by decide +kernel
theorem dX10_isAsked_11 : decode cX10_isAsked 11 = .ok (.iload 5, 2) := by decide +kernel
theorem dX10_isAsked_13 : decode cX10_isAsked 13 = .ok (.iconst 1, 1) := by decide +kernel
theorem dX10_isAsked_14 : decode cX10_isAsked 14 = .ok (.bipush 7, 2) := by decide +kernel
theorem dX10_isAsked_16 : decode cX10_isAsked 16 = .ok (.invokestatic 115, 3) := by decide +kernel
theorem dX10_isAsked_19 : decode cX10_isAsked 19 = .ok (.ifCond .eq 20, 3) := by decide +kernel
theorem dX10_isAsked_22 : decode cX10_isAsked 22 = .ok (.aload_n 0, 1) := by decide +kernel
theorem dX10_isAsked_23 : decode cX10_isAsked 23 = .ok (.iload_n 1, 1) := by decide +kernel
theorem dX10_isAsked_24 : decode cX10_isAsked 24 = .ok (.invokevirtual 184, 3) := by decide +kernel
theorem dX10_isAsked_27 : decode cX10_isAsked 27 = .ok (.ifCond .eq 12, 3) := by decide +kernel
theorem dX10_isAsked_30 : decode cX10_isAsked 30 = .ok (.aload_n 0, 1) := by decide +kernel
theorem dX10_isAsked_31 : decode cX10_isAsked 31 = .ok (.iload_n 2, 1) := by decide +kernel
theorem dX10_isAsked_32 : decode cX10_isAsked 32 = .ok (.iload_n 3, 1) := by decide +kernel
theorem dX10_isAsked_33 : decode cX10_isAsked 33 = .ok (.invokevirtual 276, 3) := by decide +kernel
theorem dX10_isAsked_36 : decode cX10_isAsked 36 = .ok (.ifCond .ne 5, 3) := by decide +kernel
theorem dX10_isAsked_39 : decode cX10_isAsked 39 = .ok (.iconst 0, 1) := by decide +kernel
theorem dX10_isAsked_40 : decode cX10_isAsked 40 = .ok (.ireturn, 1) := by decide +kernel
theorem dX10_isAsked_41 : decode cX10_isAsked 41 = .ok (.aload_n 0, 1) := by decide +kernel
theorem dX10_isAsked_42 : decode cX10_isAsked 42 = .ok (.invokevirtual 346, 3) := by decide +kernel
theorem dX10_isAsked_45 : decode cX10_isAsked 45 = .ok (.aload_n 0, 1) := by decide +kernel
theorem dX10_isAsked_46 : decode cX10_isAsked 46 = .ok (.iload 4, 2) := by decide +kernel
theorem dX10_isAsked_48 : decode cX10_isAsked 48 = .ok (.putfield 303, 3) := by decide +kernel
theorem dX10_isAsked_51 : decode cX10_isAsked 51 = .ok (.aload_n 0, 1) := by decide +kernel
theorem dX10_isAsked_52 : decode cX10_isAsked 52 = .ok (.iload 5, 2) := by decide +kernel
theorem dX10_isAsked_54 : decode cX10_isAsked 54 = .ok (.invokevirtual 349, 3) := by decide +kernel
theorem dX10_isAsked_57 : decode cX10_isAsked 57 = .ok (.aload_n 0, 1) := by decide +kernel
theorem dX10_isAsked_58 : decode cX10_isAsked 58 = .ok (.invokevirtual 352, 3) := by decide +kernel
theorem dX10_isAsked_61 : decode cX10_isAsked 61 = .ok (.ifCond .lt 7, 3) := by decide +kernel
theorem dX10_isAsked_64 : decode cX10_isAsked 64 = .ok (.iconst 1, 1) := by decide +kernel
theorem dX10_isAsked_65 : decode cX10_isAsked 65 = .ok (.goto 4, 3) := by decide +kernel
theorem dX10_isAsked_68 : decode cX10_isAsked 68 = .ok (.iconst 0, 1) := by decide +kernel
theorem dX10_isAsked_69 : decode cX10_isAsked 69 = .ok (.ireturn, 1) := by decide +kernel
def zX10_isAsked (Qr : Option PV → Mem → Prop) : XZ := (RX10, 6, 134, 6, some FieldType.boolean, Qr)
noncomputable def fX10_isAsked (o : Nat) (x1 : Int) (x2 : Int) (x3 : Int) (x4 : Int) (x5 : Int) (F : Mem) : Option (Int × Mem) :=
  if (fX10_isIn x4 0 6) = 0 then
    some (0, F)
  else
    if (fX10_isIn x5 1 7) = 0 then
      some (0, F)
    else
      (fX10_isValley_ o x1 F).bind fun q3 =>
      if q3.1 = 0 then
        some (0, q3.2)
      else
        (fX10_isState o x2 x3 q3.2).bind fun q6 =>
        if q6.1 ≠ 0 then
          (fX10_solves o x5 (mset (fX10_plain o q6.2) o 26 x4)).bind fun q9 =>
          (fX10_gain o q9).bind fun r11 =>
          if r11 < 0 then
            some (0, q9)
          else
            some (1, q9)
        else
          some (0, q6.2)
theorem fX10_isAsked_ok {Qr : Option PV → Mem → Prop} : ∀ (o : Nat) (x1 : Int) (x2 : Int) (x3 : Int) (x4 : Int) (x5 : Int) (F : Mem) (res : (Int × Mem)) (ho : isK o 10), fX10_isAsked o x1 x2 x3 x4 x5 F = some res → Qr (some (vI res.1)) res.2 → PR cX10_isAsked (zX10_isAsked Qr) 0 [(0, vR o), (1, vI x1), (2, vI x2), (3, vI x3), (4, vI x4), (5, vI x5)] [] F := by
  intro o x1 x2 x3 x4 x5 F res ho h hq
  refine s_iload (j := 4) dX10_isAsked_0 rfl ?_
  refine s_iconst dX10_isAsked_2 (cin rfl) ?_
  refine s_bipush dX10_isAsked_3 rfl (cin rfl) ?_
  refine s_callS (As := [vI x4, vI 0, vI 6]) (rest := []) (r := (some (vI (fX10_isIn x4 0 6)))) (F' := F) dX10_isAsked_5 (clX10_115 (Nat.le_of_ble_eq_true rfl) (Nat.le_of_ble_eq_true rfl)) rfl ⟨_, _, _, _, rfl, rfl, rfl, rfl⟩ rfl (Nat.le_of_ble_eq_true rfl) ?_
  refine s_if_eq (tgt := 39) dX10_isAsked_8 rfl (fun hc1 => ?_) (fun hc1 => ?_)
  · have h := ifp hc1 h
    refine s_iconst dX10_isAsked_39 (cin rfl) ?_
    have h := Option.some.inj h
    subst h
    exact s_zreturn dX10_isAsked_40 rfl (Or.inl rfl) hq
  · have h := ifn hc1 h
    refine s_iload (j := 5) dX10_isAsked_11 rfl ?_
    refine s_iconst dX10_isAsked_13 (cin rfl) ?_
    refine s_bipush dX10_isAsked_14 rfl (cin rfl) ?_
    refine s_callS (As := [vI x5, vI 1, vI 7]) (rest := []) (r := (some (vI (fX10_isIn x5 1 7)))) (F' := F) dX10_isAsked_16 (clX10_115 (Nat.le_of_ble_eq_true rfl) (Nat.le_of_ble_eq_true rfl)) rfl ⟨_, _, _, _, rfl, rfl, rfl, rfl⟩ rfl (Nat.le_of_ble_eq_true rfl) ?_
    refine s_if_eq (tgt := 39) dX10_isAsked_19 rfl (fun hc2 => ?_) (fun hc2 => ?_)
    · have h := ifp hc2 h
      refine s_iconst dX10_isAsked_39 (cin rfl) ?_
      have h := Option.some.inj h
      subst h
      exact s_zreturn dX10_isAsked_40 rfl (Or.inl rfl) hq
    · have h := ifn hc2 h
      refine s_aload_n (j := 0) dX10_isAsked_22 rfl rfl ?_
      refine s_iload_n (j := 1) dX10_isAsked_23 rfl rfl ?_
      obtain ⟨q3, hv4, h⟩ := bnd h
      refine s_callV (As := [vI x1]) (rest := []) (r := (some (vI q3.1))) (F' := q3.2) dX10_isAsked_24 (clX10_184 (Nat.le_of_ble_eq_true rfl) (Nat.le_of_ble_eq_true rfl)) ho rfl ⟨_, _, _, rfl, ho, hv4, rfl, rfl⟩ rfl (Nat.le_of_ble_eq_true rfl) ?_
      refine s_if_eq (tgt := 39) dX10_isAsked_27 rfl (fun hc5 => ?_) (fun hc5 => ?_)
      · have h := ifp hc5 h
        refine s_iconst dX10_isAsked_39 (cin rfl) ?_
        have h := Option.some.inj h
        subst h
        exact s_zreturn dX10_isAsked_40 rfl (Or.inl rfl) hq
      · have h := ifn hc5 h
        refine s_aload_n (j := 0) dX10_isAsked_30 rfl rfl ?_
        refine s_iload_n (j := 2) dX10_isAsked_31 rfl rfl ?_
        refine s_iload_n (j := 3) dX10_isAsked_32 rfl rfl ?_
        obtain ⟨q6, hv7, h⟩ := bnd h
        refine s_callV (As := [vI x2, vI x3]) (rest := []) (r := (some (vI q6.1))) (F' := q6.2) dX10_isAsked_33 (clX10_276 (Nat.le_of_ble_eq_true rfl) (Nat.le_of_ble_eq_true rfl)) ho rfl ⟨_, _, _, _, rfl, ho, hv7, rfl, rfl⟩ rfl (Nat.le_of_ble_eq_true rfl) ?_
        refine s_if_ne (tgt := 41) dX10_isAsked_36 rfl (fun hc8 => ?_) (fun hc8 => ?_)
        · have h := ifp hc8 h
          refine s_aload_n (j := 0) dX10_isAsked_41 rfl rfl ?_
          refine s_callV (As := []) (rest := []) (r := none) (F' := (fX10_plain o q6.2)) dX10_isAsked_42 (clX10_346 (Nat.le_of_ble_eq_true rfl) (Nat.le_of_ble_eq_true rfl)) ho rfl ⟨_, _, rfl, ho, rfl, rfl, rfl⟩ rfl (Nat.le_of_ble_eq_true rfl) ?_
          refine s_aload_n (j := 0) dX10_isAsked_45 rfl rfl ?_
          refine s_iload (j := 4) dX10_isAsked_46 rfl ?_
          refine s_putI dX10_isAsked_48 flX10_303 fpX10_26 ho ?_
          refine s_aload_n (j := 0) dX10_isAsked_51 rfl rfl ?_
          refine s_iload (j := 5) dX10_isAsked_52 rfl ?_
          obtain ⟨q9, hv10, h⟩ := bnd h
          refine s_callV (As := [vI x5]) (rest := []) (r := none) (F' := q9) dX10_isAsked_54 (clX10_349 (Nat.le_of_ble_eq_true rfl) (Nat.le_of_ble_eq_true rfl)) ho rfl ⟨_, _, _, rfl, ho, hv10, rfl, rfl⟩ rfl (Nat.le_of_ble_eq_true rfl) ?_
          refine s_aload_n (j := 0) dX10_isAsked_57 rfl rfl ?_
          obtain ⟨r11, hv12, h⟩ := bnd h
          refine s_callV (As := []) (rest := []) (r := (some (vI r11))) (F' := q9) dX10_isAsked_58 (clX10_352 (Nat.le_of_ble_eq_true rfl) (Nat.le_of_ble_eq_true rfl)) ho rfl ⟨_, _, rfl, ho, hv12, rfl, rfl⟩ rfl (Nat.le_of_ble_eq_true rfl) ?_
          refine s_if_lt (tgt := 68) dX10_isAsked_61 rfl (fun hc13 => ?_) (fun hc13 => ?_)
          · have h := ifp hc13 h
            refine s_iconst dX10_isAsked_68 (cin rfl) ?_
            have h := Option.some.inj h
            subst h
            exact s_zreturn dX10_isAsked_69 rfl (Or.inl rfl) hq
          · have h := ifn hc13 h
            refine s_iconst dX10_isAsked_64 (cin rfl) ?_
            refine s_goto (tgt := 69) dX10_isAsked_65 rfl ?_
            have h := Option.some.inj h
            subst h
            exact s_zreturn dX10_isAsked_69 rfl (Or.inr rfl) hq
        · have h := ifn hc8 h
          refine s_iconst dX10_isAsked_39 (cin rfl) ?_
          have h := Option.some.inj h
          subst h
          exact s_zreturn dX10_isAsked_40 rfl (Or.inl rfl) hq
def gX10_isAsked : XG := fun As F r F' => ∃ o : Nat, ∃ x1 : Int, ∃ x2 : Int, ∃ x3 : Int, ∃ x4 : Int, ∃ x5 : Int, ∃ res : (Int × Mem), As = [vR o, vI x1, vI x2, vI x3, vI x4, vI x5] ∧ isK o 10 ∧ fX10_isAsked o x1 x2 x3 x4 x5 F = some res ∧ r = some (vI res.1) ∧ F' = res.2
theorem ctX10_isAsked : xCT yX10_isAsked cX10_isAsked 6 (some FieldType.boolean) 6 134 gX10_isAsked := xmet (by decide +kernel) (fun As F r F' hg => by obtain ⟨o, x1, x2, x3, x4, x5, res, rfl, ho, h, rfl, rfl⟩ := hg; exact Nat.le_of_ble_eq_true rfl) (fun As F r F' hg => by obtain ⟨o, x1, x2, x3, x4, x5, res, rfl, ho, h, rfl, rfl⟩ := hg; exact fX10_isAsked_ok o x1 x2 x3 x4 x5 _ _ ho h ⟨rfl, rfl⟩)
theorem mcX10_isAsked : Cond.code yX10_isAsked cX10_isAsked 6 (some FieldType.boolean) ∈ xw_T ∧ Cond.initialized yX10_isAsked.cls ∈ xw_T ∧ Cond.instanceMethod yX10_isAsked ∈ xw_T ∧ Cond.selects yX10_isAsked.cls yX10_isAsked yX10_isAsked ∈ xw_T := ⟨(xinT 1752 (by decide +kernel) (by decide +kernel)), (xinT 127 (by decide +kernel) (by decide +kernel)), (xinT 1751 (by decide +kernel) (by decide +kernel)), (xinT 85 (by decide +kernel) (by decide +kernel))⟩
theorem clX10_355 {fr lo : Nat} (h1 : 6 + 1 ≤ fr) (h2 : 8 + (6 + 11) + 134 ≤ lo) : xCall RX10 fr lo 0 355 10 5 gX10_isAsked := ⟨_, _, _, _, _, _, ctX10_isAsked, h1, h2, mcX10_isAsked.1, (xinT 1749 (by decide +kernel) (by decide +kernel)), mcX10_isAsked.2.1, ⟨by decide +kernel, by decide +kernel, by decide +kernel⟩, by rw [if_pos rfl]; exact ⟨mcX10_isAsked.2.2.1, mcX10_isAsked.2.2.2, _, _, rfl⟩⟩
theorem dX10_best_0 : decode cX10_best 0 = .ok (.iload 6, 2) := by decide +kernel
theorem dX10_best_2 : decode cX10_best 2 = .ok (.iconst 0, 1) := by decide +kernel
theorem dX10_best_3 : decode cX10_best 3 = .ok (.iconst 2, 1) := by decide +kernel
theorem dX10_best_4 : decode cX10_best 4 = .ok (.invokestatic 115, 3) := by decide +kernel
theorem dX10_best_7 : decode cX10_best 7 = .ok (.ifCond .eq 17, 3) := by decide +kernel
theorem dX10_best_10 : decode cX10_best 10 = .ok (.aload_n 0, 1) := by decide +kernel
theorem dX10_best_11 : decode cX10_best 11 = .ok (.iload_n 1, 1) := by decide +kernel
theorem dX10_best_12 : decode cX10_best 12 = .ok (.iload_n 2, 1) := by decide +kernel
theorem dX10_best_13 : decode cX10_best 13 = .ok (.iload_n 3, 1) := by decide +kernel
theorem dX10_best_14 : decode cX10_best 14 = .ok (.iload 4, 2) := by decide +kernel
theorem dX10_best_16 : decode cX10_best 16 = .ok (.iload 5, 2) := by decide +kernel
theorem dX10_best_18 : decode cX10_best 18 = .ok (.invokevirtual 355, 3) := by decide +kernel
theorem dX10_best_21 : decode cX10_best 21 = .ok (.ifCond .ne 5, 3) := by decide +kernel
theorem dX10_best_24 : decode cX10_best 24 = .ok (.iconst (-1), 1) := by decide +kernel
theorem dX10_best_25 : decode cX10_best 25 = .ok (.ireturn, 1) := by decide +kernel
theorem dX10_best_26 : decode cX10_best 26 = .ok (.iload 6, 2) := by decide +kernel
theorem dX10_best_28 : decode cX10_best 28 = .ok (.iconst 1, 1) := by decide +kernel
theorem dX10_best_29 : decode cX10_best 29 = .ok (.if_icmp .ne 14, 3) := by decide +kernel
theorem dX10_best_32 : decode cX10_best 32 = .ok (.aload_n 0, 1) := by decide +kernel
theorem dX10_best_33 : decode cX10_best 33 = .ok (.getfield 48, 3) := by decide +kernel
theorem dX10_best_36 : decode cX10_best 36 = .ok (.aload_n 0, 1) := by decide +kernel
theorem dX10_best_37 : decode cX10_best 37 = .ok (.iconst 4, 1) := by decide +kernel
theorem dX10_best_38 : decode cX10_best 38 = .ok (.invokevirtual 181, 3) := by decide +kernel
theorem dX10_best_41 : decode cX10_best 41 = .ok (.iaload, 1) := by decide +kernel
theorem dX10_best_42 : decode cX10_best 42 = .ok (.ireturn, 1) := by decide +kernel
theorem dX10_best_43 : decode cX10_best 43 = .ok (.iload 6, 2) := by decide +kernel
theorem dX10_best_45 : decode cX10_best 45 = .ok (.ifCond .ne 8, 3) := by decide +kernel
theorem dX10_best_48 : decode cX10_best 48 = .ok (.aload_n 0, 1) := by decide +kernel
theorem dX10_best_49 : decode cX10_best 49 = .ok (.invokevirtual 352, 3) := by decide +kernel
theorem dX10_best_52 : decode cX10_best 52 = .ok (.ireturn, 1) := by decide +kernel
theorem dX10_best_53 : decode cX10_best 53 = .ok (.aload_n 0, 1) := by decide +kernel
theorem dX10_best_54 : decode cX10_best 54 = .ok (.iconst 1, 1) := by decide +kernel
theorem dX10_best_55 : decode cX10_best 55 = .ok (.putfield 282, 3) := by decide +kernel
theorem dX10_best_58 : decode cX10_best 58 = .ok (.aload_n 0, 1) := by decide +kernel
theorem dX10_best_59 : decode cX10_best 59 = .ok (.iload 5, 2) := by decide +kernel
theorem dX10_best_61 : decode cX10_best 61 = .ok (.invokevirtual 349, 3) := by decide +kernel
theorem dX10_best_64 : decode cX10_best 64 = .ok (.aload_n 0, 1) := by decide +kernel
theorem dX10_best_65 : decode cX10_best 65 = .ok (.invokevirtual 352, 3) := by decide +kernel
theorem dX10_best_68 : decode cX10_best 68 = .ok (.ireturn, 1) := by decide +kernel
def zX10_best (Qr : Option PV → Mem → Prop) : XZ := (RX10, 7, 159, 7, some FieldType.int, Qr)
noncomputable def fX10_best (o : Nat) (x1 : Int) (x2 : Int) (x3 : Int) (x4 : Int) (x5 : Int) (x6 : Int) (F : Mem) : Option (Int × Mem) :=
  if (fX10_isIn x6 0 2) = 0 then
    some ((-1), F)
  else
    (fX10_isAsked o x1 x2 x3 x4 x5 F).bind fun q2 =>
    if q2.1 ≠ 0 then
      if x6 ≠ 1 then
        if x6 ≠ 0 then
          (fX10_solves o x5 (mset q2.2 o 28 1)).bind fun q7 =>
          (fX10_gain o q7).bind fun r9 =>
          some (r9, q7)
        else
          (fX10_gain o q2.2).bind fun r11 =>
          some (r11, q2.2)
      else
        (fX10_of o 4 q2.2).bind fun r13 =>
        if (0 : Int) ≤ r13 ∧ r13 < (alen (o + 11) : Int) then
          some (q2.2 (o + 11) r13.toNat, q2.2)
        else none
    else
      some ((-1), q2.2)
theorem fX10_best_ok {Qr : Option PV → Mem → Prop} : ∀ (o : Nat) (x1 : Int) (x2 : Int) (x3 : Int) (x4 : Int) (x5 : Int) (x6 : Int) (F : Mem) (res : (Int × Mem)) (ho : isK o 10), fX10_best o x1 x2 x3 x4 x5 x6 F = some res → Qr (some (vI res.1)) res.2 → PR cX10_best (zX10_best Qr) 0 [(0, vR o), (1, vI x1), (2, vI x2), (3, vI x3), (4, vI x4), (5, vI x5), (6, vI x6)] [] F := by
  intro o x1 x2 x3 x4 x5 x6 F res ho h hq
  refine s_iload (j := 6) dX10_best_0 rfl ?_
  refine s_iconst dX10_best_2 (cin rfl) ?_
  refine s_iconst dX10_best_3 (cin rfl) ?_
  refine s_callS (As := [vI x6, vI 0, vI 2]) (rest := []) (r := (some (vI (fX10_isIn x6 0 2)))) (F' := F) dX10_best_4 (clX10_115 (Nat.le_of_ble_eq_true rfl) (Nat.le_of_ble_eq_true rfl)) rfl ⟨_, _, _, _, rfl, rfl, rfl, rfl⟩ rfl (Nat.le_of_ble_eq_true rfl) ?_
  refine s_if_eq (tgt := 24) dX10_best_7 rfl (fun hc1 => ?_) (fun hc1 => ?_)
  · have h := ifp hc1 h
    refine s_iconst dX10_best_24 (cin rfl) ?_
    have h := Option.some.inj h
    subst h
    exact s_ireturn dX10_best_25 rfl hq
  · have h := ifn hc1 h
    refine s_aload_n (j := 0) dX10_best_10 rfl rfl ?_
    refine s_iload_n (j := 1) dX10_best_11 rfl rfl ?_
    refine s_iload_n (j := 2) dX10_best_12 rfl rfl ?_
    refine s_iload_n (j := 3) dX10_best_13 rfl rfl ?_
    refine s_iload (j := 4) dX10_best_14 rfl ?_
    refine s_iload (j := 5) dX10_best_16 rfl ?_
    obtain ⟨q2, hv3, h⟩ := bnd h
    refine s_callV (As := [vI x1, vI x2, vI x3, vI x4, vI x5]) (rest := []) (r := (some (vI q2.1))) (F' := q2.2) dX10_best_18 (clX10_355 (Nat.le_of_ble_eq_true rfl) (Nat.le_of_ble_eq_true rfl)) ho rfl ⟨_, _, _, _, _, _, _, rfl, ho, hv3, rfl, rfl⟩ rfl (Nat.le_of_ble_eq_true rfl) ?_
    refine s_if_ne (tgt := 26) dX10_best_21 rfl (fun hc4 => ?_) (fun hc4 => ?_)
    · have h := ifp hc4 h
      refine s_iload (j := 6) dX10_best_26 rfl ?_
      refine s_iconst dX10_best_28 (cin rfl) ?_
      refine s_icmp_ne (tgt := 43) dX10_best_29 rfl (fun hc5 => ?_) (fun hc5 => ?_)
      · have h := ifp hc5 h
        refine s_iload (j := 6) dX10_best_43 rfl ?_
        refine s_if_ne (tgt := 53) dX10_best_45 rfl (fun hc6 => ?_) (fun hc6 => ?_)
        · have h := ifp hc6 h
          refine s_aload_n (j := 0) dX10_best_53 rfl rfl ?_
          refine s_iconst dX10_best_54 (cin rfl) ?_
          refine s_putZ dX10_best_55 flX10_282 fpX10_28 ho (Or.inr rfl) ?_
          refine s_aload_n (j := 0) dX10_best_58 rfl rfl ?_
          refine s_iload (j := 5) dX10_best_59 rfl ?_
          obtain ⟨q7, hv8, h⟩ := bnd h
          refine s_callV (As := [vI x5]) (rest := []) (r := none) (F' := q7) dX10_best_61 (clX10_349 (Nat.le_of_ble_eq_true rfl) (Nat.le_of_ble_eq_true rfl)) ho rfl ⟨_, _, _, rfl, ho, hv8, rfl, rfl⟩ rfl (Nat.le_of_ble_eq_true rfl) ?_
          refine s_aload_n (j := 0) dX10_best_64 rfl rfl ?_
          obtain ⟨r9, hv10, h⟩ := bnd h
          refine s_callV (As := []) (rest := []) (r := (some (vI r9))) (F' := q7) dX10_best_65 (clX10_352 (Nat.le_of_ble_eq_true rfl) (Nat.le_of_ble_eq_true rfl)) ho rfl ⟨_, _, rfl, ho, hv10, rfl, rfl⟩ rfl (Nat.le_of_ble_eq_true rfl) ?_
          have h := Option.some.inj h
          subst h
          exact s_ireturn dX10_best_68 rfl hq
        · have h := ifn hc6 h
          refine s_aload_n (j := 0) dX10_best_48 rfl rfl ?_
          obtain ⟨r11, hv12, h⟩ := bnd h
          refine s_callV (As := []) (rest := []) (r := (some (vI r11))) (F' := q2.2) dX10_best_49 (clX10_352 (Nat.le_of_ble_eq_true rfl) (Nat.le_of_ble_eq_true rfl)) ho rfl ⟨_, _, rfl, ho, hv12, rfl, rfl⟩ rfl (Nat.le_of_ble_eq_true rfl) ?_
          have h := Option.some.inj h
          subst h
          exact s_ireturn dX10_best_52 rfl hq
      · have h := ifn hc5 h
        refine s_aload_n (j := 0) dX10_best_32 rfl rfl ?_
        refine s_getR dX10_best_33 flX10_48 ho ?_
        refine s_aload_n (j := 0) dX10_best_36 rfl rfl ?_
        refine s_iconst dX10_best_37 (cin rfl) ?_
        obtain ⟨r13, hv14, h⟩ := bnd h
        refine s_callV (As := [vI 4]) (rest := [vR (o + 11)]) (r := (some (vI r13))) (F' := q2.2) dX10_best_38 (clX10_181 (Nat.le_of_ble_eq_true rfl) (Nat.le_of_ble_eq_true rfl)) ho rfl ⟨_, _, _, rfl, ho, hv14, rfl, rfl⟩ rfl (Nat.le_of_ble_eq_true rfl) ?_
        obtain ⟨hb15, h⟩ := gd h
        refine s_iaload dX10_best_41 (trX10_25 ho) hb15.1 hb15.2 ?_
        have h := Option.some.inj h
        subst h
        exact s_ireturn dX10_best_42 rfl hq
    · have h := ifn hc4 h
      refine s_iconst dX10_best_24 (cin rfl) ?_
      have h := Option.some.inj h
      subst h
      exact s_ireturn dX10_best_25 rfl hq
def gX10_best : XG := fun As F r F' => ∃ o : Nat, ∃ x1 : Int, ∃ x2 : Int, ∃ x3 : Int, ∃ x4 : Int, ∃ x5 : Int, ∃ x6 : Int, ∃ res : (Int × Mem), As = [vR o, vI x1, vI x2, vI x3, vI x4, vI x5, vI x6] ∧ isK o 10 ∧ fX10_best o x1 x2 x3 x4 x5 x6 F = some res ∧ r = some (vI res.1) ∧ F' = res.2
theorem ctX10_best : xCT yX10_best cX10_best 7 (some FieldType.int) 7 159 gX10_best := xmet (by decide +kernel) (fun As F r F' hg => by obtain ⟨o, x1, x2, x3, x4, x5, x6, res, rfl, ho, h, rfl, rfl⟩ := hg; exact Nat.le_of_ble_eq_true rfl) (fun As F r F' hg => by obtain ⟨o, x1, x2, x3, x4, x5, x6, res, rfl, ho, h, rfl, rfl⟩ := hg; exact fX10_best_ok o x1 x2 x3 x4 x5 x6 _ _ ho h ⟨rfl, rfl⟩)
theorem mcX10_best : Cond.code yX10_best cX10_best 7 (some FieldType.int) ∈ xw_T ∧ Cond.initialized yX10_best.cls ∈ xw_T ∧ Cond.instanceMethod yX10_best ∈ xw_T ∧ Cond.selects yX10_best.cls yX10_best yX10_best ∈ xw_T := ⟨(xinT 1748 (by decide +kernel) (by decide +kernel)), (xinT 127 (by decide +kernel) (by decide +kernel)), (xinT 1746 (by decide +kernel) (by decide +kernel)), (xinT 1747 (by decide +kernel) (by decide +kernel))⟩
theorem dX10_spot_0 : decode cX10_spot 0 = .ok (.iload 6, 2) := by decide +kernel
theorem dX10_spot_2 : decode cX10_spot 2 = .ok (.iconst 0, 1) := by decide +kernel
theorem dX10_spot_3 : decode cX10_spot 3 = .ok (.iload 5, 2) := by decide +kernel
theorem dX10_spot_5 : decode cX10_spot 5 = .ok (.iconst 1, 1) := by decide +kernel
theorem dX10_spot_6 : decode cX10_spot 6 = .ok (.isub, 1) := by decide +kernel
theorem dX10_spot_7 : decode cX10_spot 7 = .ok (.invokestatic 115, 3) := by decide +kernel
theorem dX10_spot_10 : decode cX10_spot 10 = .ok (.ifCond .eq 26, 3) := by decide +kernel
theorem dX10_spot_13 : decode cX10_spot 13 = .ok (.aload_n 0, 1) := by decide +kernel
theorem dX10_spot_14 : decode cX10_spot 14 = .ok (.iload_n 1, 1) := by decide +kernel
theorem dX10_spot_15 : decode cX10_spot 15 = .ok (.iload_n 2, 1) := by decide +kernel
theorem dX10_spot_16 : decode cX10_spot 16 = .ok (.iload_n 3, 1) := by decide +kernel
theorem dX10_spot_17 : decode cX10_spot 17 = .ok (.iload 4, 2) := by decide +kernel
theorem dX10_spot_19 : decode cX10_spot 19 = .ok (.iload 5, 2) := by decide +kernel
theorem dX10_spot_21 : decode cX10_spot 21 = .ok (.invokevirtual 355, 3) := by decide +kernel
theorem dX10_spot_24 : decode cX10_spot 24 = .ok (.ifCond .eq 12, 3) := by decide +kernel
theorem dX10_spot_27 : decode cX10_spot 27 = .ok (.aload_n 0, 1) := by decide +kernel
theorem dX10_spot_28 : decode cX10_spot 28 = .ok (.iload 7, 2) := by decide +kernel
theorem dX10_spot_30 : decode cX10_spot 30 = .ok (.invokevirtual 234, 3) := by decide +kernel
theorem dX10_spot_33 : decode cX10_spot 33 = .ok (.ifCond .ne 6, 3) := by decide +kernel
theorem dX10_spot_36 : decode cX10_spot 36 = .ok (.bipush (-2), 2) := by decide +kernel
theorem dX10_spot_38 : decode cX10_spot 38 = .ok (.ireturn, 1) := by decide +kernel
theorem dX10_spot_39 : decode cX10_spot 39 = .ok (.aload_n 0, 1) := by decide +kernel
theorem dX10_spot_40 : decode cX10_spot 40 = .ok (.aload_n 0, 1) := by decide +kernel
theorem dX10_spot_41 : decode cX10_spot 41 = .ok (.iconst 0, 1) := by decide +kernel
theorem dX10_spot_42 : decode cX10_spot 42 = .ok (.invokevirtual 181, 3) := by decide +kernel
theorem dX10_spot_45 : decode cX10_spot 45 = .ok (.iload 6, 2) := by decide +kernel
theorem dX10_spot_47 : decode cX10_spot 47 = .ok (.imul, 1) := by decide +kernel
theorem dX10_spot_48 : decode cX10_spot 48 = .ok (.iload 7, 2) := by decide +kernel
theorem dX10_spot_50 : decode cX10_spot 50 = .ok (.iadd, 1) := by decide +kernel
theorem dX10_spot_51 : decode cX10_spot 51 = .ok (.invokevirtual 359, 3) := by decide +kernel
theorem dX10_spot_54 : decode cX10_spot 54 = .ok (.aload_n 0, 1) := by decide +kernel
theorem dX10_spot_55 : decode cX10_spot 55 = .ok (.getfield 333, 3) := by decide +kernel
theorem dX10_spot_58 : decode cX10_spot 58 = .ok (.ireturn, 1) := by decide +kernel
def zX10_spot (Qr : Option PV → Mem → Prop) : XZ := (RX10, 7, 159, 8, some FieldType.int, Qr)
noncomputable def fX10_spot (o : Nat) (x1 : Int) (x2 : Int) (x3 : Int) (x4 : Int) (x5 : Int) (x6 : Int) (x7 : Int) (F : Mem) : Option (Int × Mem) :=
  if (fX10_isIn x6 0 (xw (x5 - 1))) = 0 then
    some ((-2), F)
  else
    (fX10_isAsked o x1 x2 x3 x4 x5 F).bind fun q2 =>
    if q2.1 = 0 then
      some ((-2), q2.2)
    else
      (fX10_isSlot o x7 q2.2).bind fun r5 =>
      if r5 ≠ 0 then
        (fX10_of o 0 q2.2).bind fun r8 =>
        (fX10_walksTo o (xw ((xw (r8 * x6)) + x7)) q2.2).bind fun q10 =>
        some (q10 o 38, q10)
      else
        some ((-2), q2.2)
theorem fX10_spot_ok {Qr : Option PV → Mem → Prop} : ∀ (o : Nat) (x1 : Int) (x2 : Int) (x3 : Int) (x4 : Int) (x5 : Int) (x6 : Int) (x7 : Int) (F : Mem) (res : (Int × Mem)) (ho : isK o 10), fX10_spot o x1 x2 x3 x4 x5 x6 x7 F = some res → Qr (some (vI res.1)) res.2 → PR cX10_spot (zX10_spot Qr) 0 [(0, vR o), (1, vI x1), (2, vI x2), (3, vI x3), (4, vI x4), (5, vI x5), (6, vI x6), (7, vI x7)] [] F := by
  intro o x1 x2 x3 x4 x5 x6 x7 F res ho h hq
  refine s_iload (j := 6) dX10_spot_0 rfl ?_
  refine s_iconst dX10_spot_2 (cin rfl) ?_
  refine s_iload (j := 5) dX10_spot_3 rfl ?_
  refine s_iconst dX10_spot_5 (cin rfl) ?_
  refine s_isub dX10_spot_6 ?_
  refine s_callS (As := [vI x6, vI 0, vI (xw (x5 - 1))]) (rest := []) (r := (some (vI (fX10_isIn x6 0 (xw (x5 - 1)))))) (F' := F) dX10_spot_7 (clX10_115 (Nat.le_of_ble_eq_true rfl) (Nat.le_of_ble_eq_true rfl)) rfl ⟨_, _, _, _, rfl, rfl, rfl, rfl⟩ rfl (Nat.le_of_ble_eq_true rfl) ?_
  refine s_if_eq (tgt := 36) dX10_spot_10 rfl (fun hc1 => ?_) (fun hc1 => ?_)
  · have h := ifp hc1 h
    refine s_bipush dX10_spot_36 rfl (cin rfl) ?_
    have h := Option.some.inj h
    subst h
    exact s_ireturn dX10_spot_38 rfl hq
  · have h := ifn hc1 h
    refine s_aload_n (j := 0) dX10_spot_13 rfl rfl ?_
    refine s_iload_n (j := 1) dX10_spot_14 rfl rfl ?_
    refine s_iload_n (j := 2) dX10_spot_15 rfl rfl ?_
    refine s_iload_n (j := 3) dX10_spot_16 rfl rfl ?_
    refine s_iload (j := 4) dX10_spot_17 rfl ?_
    refine s_iload (j := 5) dX10_spot_19 rfl ?_
    obtain ⟨q2, hv3, h⟩ := bnd h
    refine s_callV (As := [vI x1, vI x2, vI x3, vI x4, vI x5]) (rest := []) (r := (some (vI q2.1))) (F' := q2.2) dX10_spot_21 (clX10_355 (Nat.le_of_ble_eq_true rfl) (Nat.le_of_ble_eq_true rfl)) ho rfl ⟨_, _, _, _, _, _, _, rfl, ho, hv3, rfl, rfl⟩ rfl (Nat.le_of_ble_eq_true rfl) ?_
    refine s_if_eq (tgt := 36) dX10_spot_24 rfl (fun hc4 => ?_) (fun hc4 => ?_)
    · have h := ifp hc4 h
      refine s_bipush dX10_spot_36 rfl (cin rfl) ?_
      have h := Option.some.inj h
      subst h
      exact s_ireturn dX10_spot_38 rfl hq
    · have h := ifn hc4 h
      refine s_aload_n (j := 0) dX10_spot_27 rfl rfl ?_
      refine s_iload (j := 7) dX10_spot_28 rfl ?_
      obtain ⟨r5, hv6, h⟩ := bnd h
      refine s_callV (As := [vI x7]) (rest := []) (r := (some (vI r5))) (F' := q2.2) dX10_spot_30 (clX10_234 (Nat.le_of_ble_eq_true rfl) (Nat.le_of_ble_eq_true rfl)) ho rfl ⟨_, _, _, rfl, ho, hv6, rfl, rfl⟩ rfl (Nat.le_of_ble_eq_true rfl) ?_
      refine s_if_ne (tgt := 39) dX10_spot_33 rfl (fun hc7 => ?_) (fun hc7 => ?_)
      · have h := ifp hc7 h
        refine s_aload_n (j := 0) dX10_spot_39 rfl rfl ?_
        refine s_aload_n (j := 0) dX10_spot_40 rfl rfl ?_
        refine s_iconst dX10_spot_41 (cin rfl) ?_
        obtain ⟨r8, hv9, h⟩ := bnd h
        refine s_callV (As := [vI 0]) (rest := [vR o]) (r := (some (vI r8))) (F' := q2.2) dX10_spot_42 (clX10_181 (Nat.le_of_ble_eq_true rfl) (Nat.le_of_ble_eq_true rfl)) ho rfl ⟨_, _, _, rfl, ho, hv9, rfl, rfl⟩ rfl (Nat.le_of_ble_eq_true rfl) ?_
        refine s_iload (j := 6) dX10_spot_45 rfl ?_
        refine s_imul dX10_spot_47 ?_
        refine s_iload (j := 7) dX10_spot_48 rfl ?_
        refine s_iadd dX10_spot_50 ?_
        obtain ⟨q10, hv11, h⟩ := bnd h
        refine s_callV (As := [vI (xw ((xw (r8 * x6)) + x7))]) (rest := []) (r := none) (F' := q10) dX10_spot_51 (clX10_359 (Nat.le_of_ble_eq_true rfl) (Nat.le_of_ble_eq_true rfl)) ho rfl ⟨_, _, _, rfl, ho, hv11, rfl, rfl⟩ rfl (Nat.le_of_ble_eq_true rfl) ?_
        refine s_aload_n (j := 0) dX10_spot_54 rfl rfl ?_
        refine s_getI dX10_spot_55 flX10_333 ho ?_
        have h := Option.some.inj h
        subst h
        exact s_ireturn dX10_spot_58 rfl hq
      · have h := ifn hc7 h
        refine s_bipush dX10_spot_36 rfl (cin rfl) ?_
        have h := Option.some.inj h
        subst h
        exact s_ireturn dX10_spot_38 rfl hq
def gX10_spot : XG := fun As F r F' => ∃ o : Nat, ∃ x1 : Int, ∃ x2 : Int, ∃ x3 : Int, ∃ x4 : Int, ∃ x5 : Int, ∃ x6 : Int, ∃ x7 : Int, ∃ res : (Int × Mem), As = [vR o, vI x1, vI x2, vI x3, vI x4, vI x5, vI x6, vI x7] ∧ isK o 10 ∧ fX10_spot o x1 x2 x3 x4 x5 x6 x7 F = some res ∧ r = some (vI res.1) ∧ F' = res.2
theorem ctX10_spot : xCT yX10_spot cX10_spot 8 (some FieldType.int) 7 159 gX10_spot := xmet (by decide +kernel) (fun As F r F' hg => by obtain ⟨o, x1, x2, x3, x4, x5, x6, x7, res, rfl, ho, h, rfl, rfl⟩ := hg; exact Nat.le_of_ble_eq_true rfl) (fun As F r F' hg => by obtain ⟨o, x1, x2, x3, x4, x5, x6, x7, res, rfl, ho, h, rfl, rfl⟩ := hg; exact fX10_spot_ok o x1 x2 x3 x4 x5 x6 x7 _ _ ho h ⟨rfl, rfl⟩)
theorem mcX10_spot : Cond.code yX10_spot cX10_spot 8 (some FieldType.int) ∈ xw_T ∧ Cond.initialized yX10_spot.cls ∈ xw_T ∧ Cond.instanceMethod yX10_spot ∈ xw_T ∧ Cond.selects yX10_spot.cls yX10_spot yX10_spot ∈ xw_T := ⟨(xinT 1793 (by decide +kernel) (by decide +kernel)), (xinT 127 (by decide +kernel) (by decide +kernel)), (xinT 1791 (by decide +kernel) (by decide +kernel)), (xinT 1792 (by decide +kernel) (by decide +kernel))⟩
theorem dX10_areSlots_0 : decode cX10_areSlots 0 = .ok (.iload_n 1, 1) := by decide +kernel
theorem dX10_areSlots_1 : decode cX10_areSlots 1 = .ok (.ifCond .lt 21, 3) := by decide +kernel
theorem dX10_areSlots_4 : decode cX10_areSlots 4 = .ok (.iload_n 2, 1) := by decide +kernel
theorem dX10_areSlots_5 : decode cX10_areSlots 5 = .ok (.iload_n 1, 1) := by decide +kernel
theorem dX10_areSlots_6 : decode cX10_areSlots 6 = .ok (.if_icmp .le 16, 3) := by decide +kernel
theorem dX10_areSlots_9 : decode cX10_areSlots 9 = .ok (.iload_n 2, 1) := by decide +kernel
theorem dX10_areSlots_10 : decode cX10_areSlots 10 = .ok (.aload_n 0, 1) := by decide +kernel
theorem dX10_areSlots_11 : decode cX10_areSlots 11 = .ok (.iconst 0, 1) := by decide +kernel
theorem dX10_areSlots_12 : decode cX10_areSlots 12 = .ok (.invokevirtual 181, 3) := by decide +kernel
theorem dX10_areSlots_15 : decode cX10_areSlots 15 = .ok (.if_icmp .gt 7, 3) := by decide +kernel
theorem dX10_areSlots_18 : decode cX10_areSlots 18 = .ok (.iconst 1, 1) := by decide +kernel
theorem dX10_areSlots_19 : decode cX10_areSlots 19 = .ok (.goto 4, 3) := by decide +kernel
theorem dX10_areSlots_22 : decode cX10_areSlots 22 = .ok (.iconst 0, 1) := by decide +kernel
theorem dX10_areSlots_23 : decode cX10_areSlots 23 = .ok (.ireturn, 1) := by decide +kernel
def zX10_areSlots (Qr : Option PV → Mem → Prop) : XZ := (RX10, 1, 21, 3, some FieldType.boolean, Qr)
noncomputable def fX10_areSlots (o : Nat) (x1 : Int) (x2 : Int) (F : Mem) : Option Int :=
  if x1 < 0 then
    some 0
  else
    if x2 ≤ x1 then
      some 0
    else
      (fX10_of o 0 F).bind fun r3 =>
      if r3 < x2 then
        some 0
      else
        some 1
theorem fX10_areSlots_ok {Qr : Option PV → Mem → Prop} : ∀ (o : Nat) (x1 : Int) (x2 : Int) (F : Mem) (res : Int) (ho : isK o 10), fX10_areSlots o x1 x2 F = some res → Qr (some (vI res)) F → PR cX10_areSlots (zX10_areSlots Qr) 0 [(0, vR o), (1, vI x1), (2, vI x2)] [] F := by
  intro o x1 x2 F res ho h hq
  refine s_iload_n (j := 1) dX10_areSlots_0 rfl rfl ?_
  refine s_if_lt (tgt := 22) dX10_areSlots_1 rfl (fun hc1 => ?_) (fun hc1 => ?_)
  · have h := ifp hc1 h
    refine s_iconst dX10_areSlots_22 (cin rfl) ?_
    have h := Option.some.inj h
    subst h
    exact s_zreturn dX10_areSlots_23 rfl (Or.inl rfl) hq
  · have h := ifn hc1 h
    refine s_iload_n (j := 2) dX10_areSlots_4 rfl rfl ?_
    refine s_iload_n (j := 1) dX10_areSlots_5 rfl rfl ?_
    refine s_icmp_le (tgt := 22) dX10_areSlots_6 rfl (fun hc2 => ?_) (fun hc2 => ?_)
    · have h := ifp hc2 h
      refine s_iconst dX10_areSlots_22 (cin rfl) ?_
      have h := Option.some.inj h
      subst h
      exact s_zreturn dX10_areSlots_23 rfl (Or.inl rfl) hq
    · have h := ifn hc2 h
      refine s_iload_n (j := 2) dX10_areSlots_9 rfl rfl ?_
      refine s_aload_n (j := 0) dX10_areSlots_10 rfl rfl ?_
      refine s_iconst dX10_areSlots_11 (cin rfl) ?_
      obtain ⟨r3, hv4, h⟩ := bnd h
      refine s_callV (As := [vI 0]) (rest := [vI x2]) (r := (some (vI r3))) (F' := F) dX10_areSlots_12 (clX10_181 (Nat.le_of_ble_eq_true rfl) (Nat.le_of_ble_eq_true rfl)) ho rfl ⟨_, _, _, rfl, ho, hv4, rfl, rfl⟩ rfl (Nat.le_of_ble_eq_true rfl) ?_
      refine s_icmp_gt (tgt := 22) dX10_areSlots_15 rfl (fun hc5 => ?_) (fun hc5 => ?_)
      · have h := ifp hc5 h
        refine s_iconst dX10_areSlots_22 (cin rfl) ?_
        have h := Option.some.inj h
        subst h
        exact s_zreturn dX10_areSlots_23 rfl (Or.inl rfl) hq
      · have h := ifn hc5 h
        refine s_iconst dX10_areSlots_18 (cin rfl) ?_
        refine s_goto (tgt := 23) dX10_areSlots_19 rfl ?_
        have h := Option.some.inj h
        subst h
        exact s_zreturn dX10_areSlots_23 rfl (Or.inr rfl) hq
def gX10_areSlots : XG := fun As F r F' => ∃ o : Nat, ∃ x1 : Int, ∃ x2 : Int, ∃ res : Int, As = [vR o, vI x1, vI x2] ∧ isK o 10 ∧ fX10_areSlots o x1 x2 F = some res ∧ r = some (vI res) ∧ F' = F
theorem ctX10_areSlots : xCT yX10_areSlots cX10_areSlots 3 (some FieldType.boolean) 1 21 gX10_areSlots := xmet (by decide +kernel) (fun As F r F' hg => by obtain ⟨o, x1, x2, res, rfl, ho, h, rfl, rfl⟩ := hg; exact Nat.le_of_ble_eq_true rfl) (fun As F r F' hg => by obtain ⟨o, x1, x2, res, rfl, ho, h, rfl, rfl⟩ := hg; exact fX10_areSlots_ok o x1 x2 _ _ ho h ⟨rfl, rfl⟩)
theorem mcX10_areSlots : Cond.code yX10_areSlots cX10_areSlots 3 (some FieldType.boolean) ∈ xw_T ∧ Cond.initialized yX10_areSlots.cls ∈ xw_T ∧ Cond.instanceMethod yX10_areSlots ∈ xw_T ∧ Cond.selects yX10_areSlots.cls yX10_areSlots yX10_areSlots ∈ xw_T := ⟨(xinT 1809 (by decide +kernel) (by decide +kernel)), (xinT 127 (by decide +kernel) (by decide +kernel)), (xinT 1808 (by decide +kernel) (by decide +kernel)), (xinT 97 (by decide +kernel) (by decide +kernel))⟩
theorem clX10_362 {fr lo : Nat} (h1 : 1 + 1 ≤ fr) (h2 : 8 + (3 + 11) + 21 ≤ lo) : xCall RX10 fr lo 0 362 10 2 gX10_areSlots := ⟨_, _, _, _, _, _, ctX10_areSlots, h1, h2, mcX10_areSlots.1, (xinT 1806 (by decide +kernel) (by decide +kernel)), mcX10_areSlots.2.1, ⟨by decide +kernel, by decide +kernel, by decide +kernel⟩, by rw [if_pos rfl]; exact ⟨mcX10_areSlots.2.2.1, mcX10_areSlots.2.2.2, _, _, rfl⟩⟩
theorem dX10_harmOf_0 : decode cX10_harmOf 0 = .ok (.aload_n 0, 1) := by decide +kernel
theorem dX10_harmOf_1 : decode cX10_harmOf 1 = .ok (.iconst 1, 1) := by decide +kernel
theorem dX10_harmOf_2 : decode cX10_harmOf 2 = .ok (.invokevirtual 349, 3) := by decide +kernel
theorem dX10_harmOf_5 : decode cX10_harmOf 5 = .ok (.aload_n 0, 1) := by decide +kernel
theorem dX10_harmOf_6 : decode cX10_harmOf 6 = .ok (.invokevirtual 352, 3) := by decide +kernel
theorem dX10_harmOf_9 : decode cX10_harmOf 9 = .ok (.istore 4, 2) := by decide +kernel
theorem dX10_harmOf_11 : decode cX10_harmOf 11 = .ok (.aload_n 0, 1) := by decide +kernel
theorem dX10_harmOf_12 : decode cX10_harmOf 12 = .ok (.iload_n 1, 1) := by decide +kernel
theorem dX10_harmOf_13 : decode cX10_harmOf 13 = .ok (.putfield 55, 3) := by decide +kernel
theorem dX10_harmOf_16 : decode cX10_harmOf 16 = .ok (.aload_n 0, 1) := by decide +kernel
theorem dX10_harmOf_17 : decode cX10_harmOf 17 = .ok (.iload_n 2, 1) := by decide +kernel
theorem dX10_harmOf_18 : decode cX10_harmOf 18 = .ok (.putfield 297, 3) := by decide +kernel
theorem dX10_harmOf_21 : decode cX10_harmOf 21 = .ok (.aload_n 0, 1) := by decide +kernel
theorem dX10_harmOf_22 : decode cX10_harmOf 22 = .ok (.iload_n 3, 1) := by decide +kernel
theorem dX10_harmOf_23 : decode cX10_harmOf 23 = .ok (.putfield 300, 3) := by decide +kernel
theorem dX10_harmOf_26 : decode cX10_harmOf 26 = .ok (.aload_n 0, 1) := by decide +kernel
theorem dX10_harmOf_27 : decode cX10_harmOf 27 = .ok (.iconst 1, 1) := by decide +kernel
theorem dX10_harmOf_28 : decode cX10_harmOf 28 = .ok (.invokevirtual 349, 3) := by decide +kernel
theorem dX10_harmOf_31 : decode cX10_harmOf 31 = .ok (.aload_n 0, 1) := by decide +kernel
theorem dX10_harmOf_32 : decode cX10_harmOf 32 = .ok (.invokevirtual 352, 3) := by decide +kernel
theorem dX10_harmOf_35 : decode cX10_harmOf 35 = .ok (.istore 5, 2) := by decide +kernel
theorem dX10_harmOf_37 : decode cX10_harmOf 37 = .ok (.aload_n 0, 1) := by decide +kernel
theorem dX10_harmOf_38 : decode cX10_harmOf 38 = .ok (.iconst (-1), 1) := by decide +kernel
theorem dX10_harmOf_39 : decode cX10_harmOf 39 = .ok (.putfield 55, 3) := by decide +kernel
theorem dX10_harmOf_42 : decode cX10_harmOf 42 = .ok (.iload 5, 2) := by decide +kernel
theorem dX10_harmOf_44 : decode cX10_harmOf 44 = .ok (.ifCond .ge 8, 3) := by decide +kernel
theorem dX10_harmOf_47 : decode cX10_harmOf 47 = .ok (.bipush (-2), 2) := by decide +kernel
theorem dX10_harmOf_49 : decode cX10_harmOf 49 = .ok (.goto 8, 3) := by decide +kernel
theorem dX10_harmOf_52 : decode cX10_harmOf 52 = .ok (.iload 4, 2) := by decide +kernel
theorem dX10_harmOf_54 : decode cX10_harmOf 54 = .ok (.iload 5, 2) := by decide +kernel
theorem dX10_harmOf_56 : decode cX10_harmOf 56 = .ok (.isub, 1) := by decide +kernel
theorem dX10_harmOf_57 : decode cX10_harmOf 57 = .ok (.ireturn, 1) := by decide +kernel
def zX10_harmOf (Qr : Option PV → Mem → Prop) : XZ := (RX10, 5, 121, 6, some FieldType.int, Qr)
noncomputable def fX10_harmOf (o : Nat) (x1 : Int) (x2 : Int) (x3 : Int) (F : Mem) : Option (Int × Mem) :=
  (fX10_solves o 1 F).bind fun q1 =>
  (fX10_gain o q1).bind fun r3 =>
  (fX10_solves o 1 (mset (mset (mset q1 o 32 x1) o 33 x2) o 34 x3)).bind fun q5 =>
  (fX10_gain o q5).bind fun r7 =>
  if 0 ≤ r7 then
    some (xw (r3 - r7), mset q5 o 32 (-1))
  else
    some ((-2), mset q5 o 32 (-1))
theorem fX10_harmOf_ok {Qr : Option PV → Mem → Prop} : ∀ (o : Nat) (x1 : Int) (x2 : Int) (x3 : Int) (F : Mem) (res : (Int × Mem)) (ho : isK o 10), fX10_harmOf o x1 x2 x3 F = some res → Qr (some (vI res.1)) res.2 → PR cX10_harmOf (zX10_harmOf Qr) 0 [(0, vR o), (1, vI x1), (2, vI x2), (3, vI x3)] [] F := by
  intro o x1 x2 x3 F res ho h hq
  refine s_aload_n (j := 0) dX10_harmOf_0 rfl rfl ?_
  refine s_iconst dX10_harmOf_1 (cin rfl) ?_
  obtain ⟨q1, hv2, h⟩ := bnd h
  refine s_callV (As := [vI 1]) (rest := []) (r := none) (F' := q1) dX10_harmOf_2 (clX10_349 (Nat.le_of_ble_eq_true rfl) (Nat.le_of_ble_eq_true rfl)) ho rfl ⟨_, _, _, rfl, ho, hv2, rfl, rfl⟩ rfl (Nat.le_of_ble_eq_true rfl) ?_
  refine s_aload_n (j := 0) dX10_harmOf_5 rfl rfl ?_
  obtain ⟨r3, hv4, h⟩ := bnd h
  refine s_callV (As := []) (rest := []) (r := (some (vI r3))) (F' := q1) dX10_harmOf_6 (clX10_352 (Nat.le_of_ble_eq_true rfl) (Nat.le_of_ble_eq_true rfl)) ho rfl ⟨_, _, rfl, ho, hv4, rfl, rfl⟩ rfl (Nat.le_of_ble_eq_true rfl) ?_
  refine s_istore (ls' := [(4, vI r3), (0, vR o), (1, vI x1), (2, vI x2), (3, vI x3)]) dX10_harmOf_9 (Nat.le_of_ble_eq_true rfl) rfl ?_
  refine s_aload_n (j := 1) dX10_harmOf_11 rfl rfl ?_
  refine s_iload_n (j := 2) dX10_harmOf_12 rfl rfl ?_
  refine s_putI dX10_harmOf_13 flX10_55 fpX10_32 ho ?_
  refine s_aload_n (j := 1) dX10_harmOf_16 rfl rfl ?_
  refine s_iload_n (j := 3) dX10_harmOf_17 rfl rfl ?_
  refine s_putI dX10_harmOf_18 flX10_297 fpX10_33 ho ?_
  refine s_aload_n (j := 1) dX10_harmOf_21 rfl rfl ?_
  refine s_iload_n (j := 4) dX10_harmOf_22 rfl rfl ?_
  refine s_putI dX10_harmOf_23 flX10_300 fpX10_34 ho ?_
  refine s_aload_n (j := 1) dX10_harmOf_26 rfl rfl ?_
  refine s_iconst dX10_harmOf_27 (cin rfl) ?_
  obtain ⟨q5, hv6, h⟩ := bnd h
  refine s_callV (As := [vI 1]) (rest := []) (r := none) (F' := q5) dX10_harmOf_28 (clX10_349 (Nat.le_of_ble_eq_true rfl) (Nat.le_of_ble_eq_true rfl)) ho rfl ⟨_, _, _, rfl, ho, hv6, rfl, rfl⟩ rfl (Nat.le_of_ble_eq_true rfl) ?_
  refine s_aload_n (j := 1) dX10_harmOf_31 rfl rfl ?_
  obtain ⟨r7, hv8, h⟩ := bnd h
  refine s_callV (As := []) (rest := []) (r := (some (vI r7))) (F' := q5) dX10_harmOf_32 (clX10_352 (Nat.le_of_ble_eq_true rfl) (Nat.le_of_ble_eq_true rfl)) ho rfl ⟨_, _, rfl, ho, hv8, rfl, rfl⟩ rfl (Nat.le_of_ble_eq_true rfl) ?_
  refine s_istore dX10_harmOf_35 (Nat.le_of_ble_eq_true rfl) rfl ?_
  refine s_aload_n (j := 2) dX10_harmOf_37 rfl rfl ?_
  refine s_iconst dX10_harmOf_38 (cin rfl) ?_
  refine s_putI dX10_harmOf_39 flX10_55 fpX10_32 ho ?_
  refine s_iload (j := 0) dX10_harmOf_42 rfl ?_
  refine s_if_ge (tgt := 52) dX10_harmOf_44 rfl (fun hc9 => ?_) (fun hc9 => ?_)
  · have h := ifp hc9 h
    refine s_iload (j := 1) dX10_harmOf_52 rfl ?_
    refine s_iload (j := 0) dX10_harmOf_54 rfl ?_
    refine s_isub dX10_harmOf_56 ?_
    have h := Option.some.inj h
    subst h
    exact s_ireturn dX10_harmOf_57 rfl hq
  · have h := ifn hc9 h
    refine s_bipush dX10_harmOf_47 rfl (cin rfl) ?_
    refine s_goto (tgt := 57) dX10_harmOf_49 rfl ?_
    have h := Option.some.inj h
    subst h
    exact s_ireturn dX10_harmOf_57 rfl hq
def gX10_harmOf : XG := fun As F r F' => ∃ o : Nat, ∃ x1 : Int, ∃ x2 : Int, ∃ x3 : Int, ∃ res : (Int × Mem), As = [vR o, vI x1, vI x2, vI x3] ∧ isK o 10 ∧ fX10_harmOf o x1 x2 x3 F = some res ∧ r = some (vI res.1) ∧ F' = res.2
theorem ctX10_harmOf : xCT yX10_harmOf cX10_harmOf 6 (some FieldType.int) 5 121 gX10_harmOf := xmet (by decide +kernel) (fun As F r F' hg => by obtain ⟨o, x1, x2, x3, res, rfl, ho, h, rfl, rfl⟩ := hg; exact Nat.le_of_ble_eq_true rfl) (fun As F r F' hg => by obtain ⟨o, x1, x2, x3, res, rfl, ho, h, rfl, rfl⟩ := hg; exact fX10_harmOf_ok o x1 x2 x3 _ _ ho h ⟨rfl, rfl⟩)
theorem mcX10_harmOf : Cond.code yX10_harmOf cX10_harmOf 6 (some FieldType.int) ∈ xw_T ∧ Cond.initialized yX10_harmOf.cls ∈ xw_T ∧ Cond.instanceMethod yX10_harmOf ∈ xw_T ∧ Cond.selects yX10_harmOf.cls yX10_harmOf yX10_harmOf ∈ xw_T := ⟨(xinT 1813 (by decide +kernel) (by decide +kernel)), (xinT 127 (by decide +kernel) (by decide +kernel)), (xinT 1812 (by decide +kernel) (by decide +kernel)), (xinT 98 (by decide +kernel) (by decide +kernel))⟩
theorem clX10_365 {fr lo : Nat} (h1 : 5 + 1 ≤ fr) (h2 : 8 + (6 + 11) + 121 ≤ lo) : xCall RX10 fr lo 0 365 10 3 gX10_harmOf := ⟨_, _, _, _, _, _, ctX10_harmOf, h1, h2, mcX10_harmOf.1, (xinT 1810 (by decide +kernel) (by decide +kernel)), mcX10_harmOf.2.1, ⟨by decide +kernel, by decide +kernel, by decide +kernel⟩, by rw [if_pos rfl]; exact ⟨mcX10_harmOf.2.2.1, mcX10_harmOf.2.2.2, _, _, rfl⟩⟩
theorem dX10_harm_0 : decode cX10_harm 0 = .ok (.aload_n 0, 1) := by decide +kernel
theorem dX10_harm_1 : decode cX10_harm 1 = .ok (.iload_n 1, 1) := by decide +kernel
theorem dX10_harm_2 : decode cX10_harm 2 = .ok (.iload_n 2, 1) := by decide +kernel
theorem dX10_harm_3 : decode cX10_harm 3 = .ok (.iload_n 3, 1) := by decide +kernel
theorem dX10_harm_4 : decode cX10_harm 4 = .ok (.iload 4, 2) := by decide +kernel
theorem dX10_harm_6 : decode cX10_harm 6 = .ok (.iconst 1, 1) := by decide +kernel
theorem dX10_harm_7 : decode cX10_harm 7 = .ok (.invokevirtual 355, 3) := by decide +kernel
theorem dX10_harm_10 : decode cX10_harm 10 = .ok (.ifCond .eq 23, 3) := by decide +kernel
theorem dX10_harm_13 : decode cX10_harm 13 = .ok (.aload_n 0, 1) := by decide +kernel
theorem dX10_harm_14 : decode cX10_harm 14 = .ok (.iload 5, 2) := by decide +kernel
theorem dX10_harm_16 : decode cX10_harm 16 = .ok (.invokevirtual 189, 3) := by decide +kernel
theorem dX10_harm_19 : decode cX10_harm 19 = .ok (.ifCond .eq 14, 3) := by decide +kernel
theorem dX10_harm_22 : decode cX10_harm 22 = .ok (.aload_n 0, 1) := by decide +kernel
theorem dX10_harm_23 : decode cX10_harm 23 = .ok (.iload 6, 2) := by decide +kernel
theorem dX10_harm_25 : decode cX10_harm 25 = .ok (.iload 7, 2) := by decide +kernel
theorem dX10_harm_27 : decode cX10_harm 27 = .ok (.invokevirtual 362, 3) := by decide +kernel
theorem dX10_harm_30 : decode cX10_harm 30 = .ok (.ifCond .ne 6, 3) := by decide +kernel
theorem dX10_harm_33 : decode cX10_harm 33 = .ok (.bipush (-2), 2) := by decide +kernel
theorem dX10_harm_35 : decode cX10_harm 35 = .ok (.ireturn, 1) := by decide +kernel
theorem dX10_harm_36 : decode cX10_harm 36 = .ok (.iload 8, 2) := by decide +kernel
theorem dX10_harm_38 : decode cX10_harm 38 = .ok (.ifCond .ne 14, 3) := by decide +kernel
theorem dX10_harm_41 : decode cX10_harm 41 = .ok (.aload_n 0, 1) := by decide +kernel
theorem dX10_harm_42 : decode cX10_harm 42 = .ok (.iload 5, 2) := by decide +kernel
theorem dX10_harm_44 : decode cX10_harm 44 = .ok (.iload 6, 2) := by decide +kernel
theorem dX10_harm_46 : decode cX10_harm 46 = .ok (.iload 7, 2) := by decide +kernel
theorem dX10_harm_48 : decode cX10_harm 48 = .ok (.invokevirtual 365, 3) := by decide +kernel
theorem dX10_harm_51 : decode cX10_harm 51 = .ok (.ireturn, 1) := by decide +kernel
theorem dX10_harm_52 : decode cX10_harm 52 = .ok (.aload_n 0, 1) := by decide +kernel
theorem dX10_harm_53 : decode cX10_harm 53 = .ok (.iload 6, 2) := by decide +kernel
theorem dX10_harm_55 : decode cX10_harm 55 = .ok (.invokevirtual 359, 3) := by decide +kernel
theorem dX10_harm_58 : decode cX10_harm 58 = .ok (.aload_n 0, 1) := by decide +kernel
theorem dX10_harm_59 : decode cX10_harm 59 = .ok (.getfield 333, 3) := by decide +kernel
theorem dX10_harm_62 : decode cX10_harm 62 = .ok (.ireturn, 1) := by decide +kernel
def zX10_harm (Qr : Option PV → Mem → Prop) : XZ := (RX10, 7, 159, 9, some FieldType.int, Qr)
noncomputable def fX10_harm (o : Nat) (x1 : Int) (x2 : Int) (x3 : Int) (x4 : Int) (x5 : Int) (x6 : Int) (x7 : Int) (x8 : Int) (F : Mem) : Option (Int × Mem) :=
  (fX10_isAsked o x1 x2 x3 x4 1 F).bind fun q1 =>
  if q1.1 = 0 then
    some ((-2), q1.2)
  else
    (fX10_isHouse o x5 q1.2).bind fun r4 =>
    if r4 = 0 then
      some ((-2), q1.2)
    else
      (fX10_areSlots o x6 x7 q1.2).bind fun r7 =>
      if r7 ≠ 0 then
        if x8 ≠ 0 then
          (fX10_walksTo o x6 q1.2).bind fun q11 =>
          some (q11 o 38, q11)
        else
          (fX10_harmOf o x5 x6 x7 q1.2).bind fun q13 =>
          some (q13.1, q13.2)
      else
        some ((-2), q1.2)
theorem fX10_harm_ok {Qr : Option PV → Mem → Prop} : ∀ (o : Nat) (x1 : Int) (x2 : Int) (x3 : Int) (x4 : Int) (x5 : Int) (x6 : Int) (x7 : Int) (x8 : Int) (F : Mem) (res : (Int × Mem)) (ho : isK o 10), fX10_harm o x1 x2 x3 x4 x5 x6 x7 x8 F = some res → Qr (some (vI res.1)) res.2 → PR cX10_harm (zX10_harm Qr) 0 [(0, vR o), (1, vI x1), (2, vI x2), (3, vI x3), (4, vI x4), (5, vI x5), (6, vI x6), (7, vI x7), (8, vI x8)] [] F := by
  intro o x1 x2 x3 x4 x5 x6 x7 x8 F res ho h hq
  refine s_aload_n (j := 0) dX10_harm_0 rfl rfl ?_
  refine s_iload_n (j := 1) dX10_harm_1 rfl rfl ?_
  refine s_iload_n (j := 2) dX10_harm_2 rfl rfl ?_
  refine s_iload_n (j := 3) dX10_harm_3 rfl rfl ?_
  refine s_iload (j := 4) dX10_harm_4 rfl ?_
  refine s_iconst dX10_harm_6 (cin rfl) ?_
  obtain ⟨q1, hv2, h⟩ := bnd h
  refine s_callV (As := [vI x1, vI x2, vI x3, vI x4, vI 1]) (rest := []) (r := (some (vI q1.1))) (F' := q1.2) dX10_harm_7 (clX10_355 (Nat.le_of_ble_eq_true rfl) (Nat.le_of_ble_eq_true rfl)) ho rfl ⟨_, _, _, _, _, _, _, rfl, ho, hv2, rfl, rfl⟩ rfl (Nat.le_of_ble_eq_true rfl) ?_
  refine s_if_eq (tgt := 33) dX10_harm_10 rfl (fun hc3 => ?_) (fun hc3 => ?_)
  · have h := ifp hc3 h
    refine s_bipush dX10_harm_33 rfl (cin rfl) ?_
    have h := Option.some.inj h
    subst h
    exact s_ireturn dX10_harm_35 rfl hq
  · have h := ifn hc3 h
    refine s_aload_n (j := 0) dX10_harm_13 rfl rfl ?_
    refine s_iload (j := 5) dX10_harm_14 rfl ?_
    obtain ⟨r4, hv5, h⟩ := bnd h
    refine s_callV (As := [vI x5]) (rest := []) (r := (some (vI r4))) (F' := q1.2) dX10_harm_16 (clX10_189 (Nat.le_of_ble_eq_true rfl) (Nat.le_of_ble_eq_true rfl)) ho rfl ⟨_, _, _, rfl, ho, hv5, rfl, rfl⟩ rfl (Nat.le_of_ble_eq_true rfl) ?_
    refine s_if_eq (tgt := 33) dX10_harm_19 rfl (fun hc6 => ?_) (fun hc6 => ?_)
    · have h := ifp hc6 h
      refine s_bipush dX10_harm_33 rfl (cin rfl) ?_
      have h := Option.some.inj h
      subst h
      exact s_ireturn dX10_harm_35 rfl hq
    · have h := ifn hc6 h
      refine s_aload_n (j := 0) dX10_harm_22 rfl rfl ?_
      refine s_iload (j := 6) dX10_harm_23 rfl ?_
      refine s_iload (j := 7) dX10_harm_25 rfl ?_
      obtain ⟨r7, hv8, h⟩ := bnd h
      refine s_callV (As := [vI x6, vI x7]) (rest := []) (r := (some (vI r7))) (F' := q1.2) dX10_harm_27 (clX10_362 (Nat.le_of_ble_eq_true rfl) (Nat.le_of_ble_eq_true rfl)) ho rfl ⟨_, _, _, _, rfl, ho, hv8, rfl, rfl⟩ rfl (Nat.le_of_ble_eq_true rfl) ?_
      refine s_if_ne (tgt := 36) dX10_harm_30 rfl (fun hc9 => ?_) (fun hc9 => ?_)
      · have h := ifp hc9 h
        refine s_iload (j := 8) dX10_harm_36 rfl ?_
        refine s_if_ne (tgt := 52) dX10_harm_38 rfl (fun hc10 => ?_) (fun hc10 => ?_)
        · have h := ifp hc10 h
          refine s_aload_n (j := 0) dX10_harm_52 rfl rfl ?_
          refine s_iload (j := 6) dX10_harm_53 rfl ?_
          obtain ⟨q11, hv12, h⟩ := bnd h
          refine s_callV (As := [vI x6]) (rest := []) (r := none) (F' := q11) dX10_harm_55 (clX10_359 (Nat.le_of_ble_eq_true rfl) (Nat.le_of_ble_eq_true rfl)) ho rfl ⟨_, _, _, rfl, ho, hv12, rfl, rfl⟩ rfl (Nat.le_of_ble_eq_true rfl) ?_
          refine s_aload_n (j := 0) dX10_harm_58 rfl rfl ?_
          refine s_getI dX10_harm_59 flX10_333 ho ?_
          have h := Option.some.inj h
          subst h
          exact s_ireturn dX10_harm_62 rfl hq
        · have h := ifn hc10 h
          refine s_aload_n (j := 0) dX10_harm_41 rfl rfl ?_
          refine s_iload (j := 5) dX10_harm_42 rfl ?_
          refine s_iload (j := 6) dX10_harm_44 rfl ?_
          refine s_iload (j := 7) dX10_harm_46 rfl ?_
          obtain ⟨q13, hv14, h⟩ := bnd h
          refine s_callV (As := [vI x5, vI x6, vI x7]) (rest := []) (r := (some (vI q13.1))) (F' := q13.2) dX10_harm_48 (clX10_365 (Nat.le_of_ble_eq_true rfl) (Nat.le_of_ble_eq_true rfl)) ho rfl ⟨_, _, _, _, _, rfl, ho, hv14, rfl, rfl⟩ rfl (Nat.le_of_ble_eq_true rfl) ?_
          have h := Option.some.inj h
          subst h
          exact s_ireturn dX10_harm_51 rfl hq
      · have h := ifn hc9 h
        refine s_bipush dX10_harm_33 rfl (cin rfl) ?_
        have h := Option.some.inj h
        subst h
        exact s_ireturn dX10_harm_35 rfl hq
def gX10_harm : XG := fun As F r F' => ∃ o : Nat, ∃ x1 : Int, ∃ x2 : Int, ∃ x3 : Int, ∃ x4 : Int, ∃ x5 : Int, ∃ x6 : Int, ∃ x7 : Int, ∃ x8 : Int, ∃ res : (Int × Mem), As = [vR o, vI x1, vI x2, vI x3, vI x4, vI x5, vI x6, vI x7, vI x8] ∧ isK o 10 ∧ fX10_harm o x1 x2 x3 x4 x5 x6 x7 x8 F = some res ∧ r = some (vI res.1) ∧ F' = res.2
theorem ctX10_harm : xCT yX10_harm cX10_harm 9 (some FieldType.int) 7 159 gX10_harm := xmet (by decide +kernel) (fun As F r F' hg => by obtain ⟨o, x1, x2, x3, x4, x5, x6, x7, x8, res, rfl, ho, h, rfl, rfl⟩ := hg; exact Nat.le_of_ble_eq_true rfl) (fun As F r F' hg => by obtain ⟨o, x1, x2, x3, x4, x5, x6, x7, x8, res, rfl, ho, h, rfl, rfl⟩ := hg; exact fX10_harm_ok o x1 x2 x3 x4 x5 x6 x7 x8 _ _ ho h ⟨rfl, rfl⟩)
theorem mcX10_harm : Cond.code yX10_harm cX10_harm 9 (some FieldType.int) ∈ xw_T ∧ Cond.initialized yX10_harm.cls ∈ xw_T ∧ Cond.instanceMethod yX10_harm ∈ xw_T ∧ Cond.selects yX10_harm.cls yX10_harm yX10_harm ∈ xw_T := ⟨(xinT 1805 (by decide +kernel) (by decide +kernel)), (xinT 127 (by decide +kernel) (by decide +kernel)), (xinT 1803 (by decide +kernel) (by decide +kernel)), (xinT 1804 (by decide +kernel) (by decide +kernel))⟩
theorem dX10_soon_0 : decode cX10_soon 0 = .ok (.aload_n 0, 1) := by decide +kernel
theorem dX10_soon_1 : decode cX10_soon 1 = .ok (.iload_n 1, 1) := by decide +kernel
theorem dX10_soon_2 : decode cX10_soon 2 = .ok (.iload_n 2, 1) := by decide +kernel
theorem dX10_soon_3 : decode cX10_soon 3 = .ok (.iload_n 3, 1) := by decide +kernel
theorem dX10_soon_4 : decode cX10_soon 4 = .ok (.iload 4, 2) := by decide +kernel
theorem dX10_soon_6 : decode cX10_soon 6 = .ok (.iconst 1, 1) := by decide +kernel
theorem dX10_soon_7 : decode cX10_soon 7 = .ok (.invokevirtual 355, 3) := by decide +kernel
theorem dX10_soon_10 : decode cX10_soon 10 = .ok (.ifCond .eq 21, 3) := by decide +kernel
theorem dX10_soon_13 : decode cX10_soon 13 = .ok (.aload_n 0, 1) := by decide +kernel
theorem dX10_soon_14 : decode cX10_soon 14 = .ok (.iload 5, 2) := by decide +kernel
theorem dX10_soon_16 : decode cX10_soon 16 = .ok (.invokevirtual 189, 3) := by decide +kernel
theorem dX10_soon_19 : decode cX10_soon 19 = .ok (.ifCond .eq 12, 3) := by decide +kernel
theorem dX10_soon_22 : decode cX10_soon 22 = .ok (.aload_n 0, 1) := by decide +kernel
theorem dX10_soon_23 : decode cX10_soon 23 = .ok (.iload 6, 2) := by decide +kernel
theorem dX10_soon_25 : decode cX10_soon 25 = .ok (.invokevirtual 234, 3) := by decide +kernel
theorem dX10_soon_28 : decode cX10_soon 28 = .ok (.ifCond .ne 6, 3) := by decide +kernel
theorem dX10_soon_31 : decode cX10_soon 31 = .ok (.bipush (-2), 2) := by decide +kernel
theorem dX10_soon_33 : decode cX10_soon 33 = .ok (.ireturn, 1) := by decide +kernel
theorem dX10_soon_34 : decode cX10_soon 34 = .ok (.aload_n 0, 1) := by decide +kernel
theorem dX10_soon_35 : decode cX10_soon 35 = .ok (.iload 6, 2) := by decide +kernel
theorem dX10_soon_37 : decode cX10_soon 37 = .ok (.invokevirtual 359, 3) := by decide +kernel
theorem dX10_soon_40 : decode cX10_soon 40 = .ok (.aload_n 0, 1) := by decide +kernel
theorem dX10_soon_41 : decode cX10_soon 41 = .ok (.getfield 333, 3) := by decide +kernel
theorem dX10_soon_44 : decode cX10_soon 44 = .ok (.iconst (-1), 1) := by decide +kernel
theorem dX10_soon_45 : decode cX10_soon 45 = .ok (.if_icmp .ne 10, 3) := by decide +kernel
theorem dX10_soon_48 : decode cX10_soon 48 = .ok (.aload_n 0, 1) := by decide +kernel
theorem dX10_soon_49 : decode cX10_soon 49 = .ok (.getfield 339, 3) := by decide +kernel
theorem dX10_soon_52 : decode cX10_soon 52 = .ok (.goto 5, 3) := by decide +kernel
theorem dX10_soon_55 : decode cX10_soon 55 = .ok (.iload 6, 2) := by decide +kernel
theorem dX10_soon_57 : decode cX10_soon 57 = .ok (.aload_n 0, 1) := by decide +kernel
theorem dX10_soon_58 : decode cX10_soon 58 = .ok (.aload_n 0, 1) := by decide +kernel
theorem dX10_soon_59 : decode cX10_soon 59 = .ok (.getfield 336, 3) := by decide +kernel
theorem dX10_soon_62 : decode cX10_soon 62 = .ok (.iload 5, 2) := by decide +kernel
theorem dX10_soon_64 : decode cX10_soon 64 = .ok (.invokevirtual 199, 3) := by decide +kernel
theorem dX10_soon_67 : decode cX10_soon 67 = .ok (.iadd, 1) := by decide +kernel
theorem dX10_soon_68 : decode cX10_soon 68 = .ok (.ireturn, 1) := by decide +kernel
def zX10_soon (Qr : Option PV → Mem → Prop) : XZ := (RX10, 7, 159, 7, some FieldType.int, Qr)
noncomputable def fX10_soon_b57 (o : Nat) (x5 : Int) (s0 : Int) (F : Mem) : Option (Int × Mem) :=
  (fX10_slotsOf o (F o 39) x5 F).bind fun r1 =>
  some (xw (s0 + r1), F)
noncomputable def fX10_soon (o : Nat) (x1 : Int) (x2 : Int) (x3 : Int) (x4 : Int) (x5 : Int) (x6 : Int) (F : Mem) : Option (Int × Mem) :=
  (fX10_isAsked o x1 x2 x3 x4 1 F).bind fun q1 =>
  if q1.1 = 0 then
    some ((-2), q1.2)
  else
    (fX10_isHouse o x5 q1.2).bind fun r4 =>
    if r4 = 0 then
      some ((-2), q1.2)
    else
      (fX10_isSlot o x6 q1.2).bind fun r7 =>
      if r7 ≠ 0 then
        (fX10_walksTo o x6 q1.2).bind fun q10 =>
        if (q10 o 38) ≠ (-1) then
          fX10_soon_b57 o x5 x6 q10
        else
          fX10_soon_b57 o x5 (q10 o 40) q10
      else
        some ((-2), q1.2)
theorem fX10_soon_b57_ok {Qr : Option PV → Mem → Prop}  : ∀ (o : Nat) (x5 : Int) (s0 : Int) (F : Mem) (res : (Int × Mem)) (ho : isK o 10), fX10_soon_b57 o x5 s0 F = some res → Qr (some (vI res.1)) res.2 → PR cX10_soon (zX10_soon Qr) 57 [(0, vR o), (5, vI x5)] [vI s0] F := by
  intro o x5 s0 F res ho h hq
  refine s_aload_n (j := 0) dX10_soon_57 rfl rfl ?_
  refine s_aload_n (j := 0) dX10_soon_58 rfl rfl ?_
  refine s_getI dX10_soon_59 flX10_336 ho ?_
  refine s_iload (j := 1) dX10_soon_62 rfl ?_
  obtain ⟨r1, hv2, h⟩ := bnd h
  refine s_callV (As := [vI (F o 39), vI x5]) (rest := [vI s0]) (r := (some (vI r1))) (F' := F) dX10_soon_64 (clX10_199 (Nat.le_of_ble_eq_true rfl) (Nat.le_of_ble_eq_true rfl)) ho rfl ⟨_, _, _, _, rfl, ho, hv2, rfl, rfl⟩ rfl (Nat.le_of_ble_eq_true rfl) ?_
  refine s_iadd dX10_soon_67 ?_
  have h := Option.some.inj h
  subst h
  exact s_ireturn dX10_soon_68 rfl hq
theorem fX10_soon_ok {Qr : Option PV → Mem → Prop} : ∀ (o : Nat) (x1 : Int) (x2 : Int) (x3 : Int) (x4 : Int) (x5 : Int) (x6 : Int) (F : Mem) (res : (Int × Mem)) (ho : isK o 10), fX10_soon o x1 x2 x3 x4 x5 x6 F = some res → Qr (some (vI res.1)) res.2 → PR cX10_soon (zX10_soon Qr) 0 [(0, vR o), (1, vI x1), (2, vI x2), (3, vI x3), (4, vI x4), (5, vI x5), (6, vI x6)] [] F := by
  intro o x1 x2 x3 x4 x5 x6 F res ho h hq
  refine s_aload_n (j := 0) dX10_soon_0 rfl rfl ?_
  refine s_iload_n (j := 1) dX10_soon_1 rfl rfl ?_
  refine s_iload_n (j := 2) dX10_soon_2 rfl rfl ?_
  refine s_iload_n (j := 3) dX10_soon_3 rfl rfl ?_
  refine s_iload (j := 4) dX10_soon_4 rfl ?_
  refine s_iconst dX10_soon_6 (cin rfl) ?_
  obtain ⟨q1, hv2, h⟩ := bnd h
  refine s_callV (As := [vI x1, vI x2, vI x3, vI x4, vI 1]) (rest := []) (r := (some (vI q1.1))) (F' := q1.2) dX10_soon_7 (clX10_355 (Nat.le_of_ble_eq_true rfl) (Nat.le_of_ble_eq_true rfl)) ho rfl ⟨_, _, _, _, _, _, _, rfl, ho, hv2, rfl, rfl⟩ rfl (Nat.le_of_ble_eq_true rfl) ?_
  refine s_if_eq (tgt := 31) dX10_soon_10 rfl (fun hc3 => ?_) (fun hc3 => ?_)
  · have h := ifp hc3 h
    refine s_bipush dX10_soon_31 rfl (cin rfl) ?_
    have h := Option.some.inj h
    subst h
    exact s_ireturn dX10_soon_33 rfl hq
  · have h := ifn hc3 h
    refine s_aload_n (j := 0) dX10_soon_13 rfl rfl ?_
    refine s_iload (j := 5) dX10_soon_14 rfl ?_
    obtain ⟨r4, hv5, h⟩ := bnd h
    refine s_callV (As := [vI x5]) (rest := []) (r := (some (vI r4))) (F' := q1.2) dX10_soon_16 (clX10_189 (Nat.le_of_ble_eq_true rfl) (Nat.le_of_ble_eq_true rfl)) ho rfl ⟨_, _, _, rfl, ho, hv5, rfl, rfl⟩ rfl (Nat.le_of_ble_eq_true rfl) ?_
    refine s_if_eq (tgt := 31) dX10_soon_19 rfl (fun hc6 => ?_) (fun hc6 => ?_)
    · have h := ifp hc6 h
      refine s_bipush dX10_soon_31 rfl (cin rfl) ?_
      have h := Option.some.inj h
      subst h
      exact s_ireturn dX10_soon_33 rfl hq
    · have h := ifn hc6 h
      refine s_aload_n (j := 0) dX10_soon_22 rfl rfl ?_
      refine s_iload (j := 6) dX10_soon_23 rfl ?_
      obtain ⟨r7, hv8, h⟩ := bnd h
      refine s_callV (As := [vI x6]) (rest := []) (r := (some (vI r7))) (F' := q1.2) dX10_soon_25 (clX10_234 (Nat.le_of_ble_eq_true rfl) (Nat.le_of_ble_eq_true rfl)) ho rfl ⟨_, _, _, rfl, ho, hv8, rfl, rfl⟩ rfl (Nat.le_of_ble_eq_true rfl) ?_
      refine s_if_ne (tgt := 34) dX10_soon_28 rfl (fun hc9 => ?_) (fun hc9 => ?_)
      · have h := ifp hc9 h
        refine s_aload_n (j := 0) dX10_soon_34 rfl rfl ?_
        refine s_iload (j := 6) dX10_soon_35 rfl ?_
        obtain ⟨q10, hv11, h⟩ := bnd h
        refine s_callV (As := [vI x6]) (rest := []) (r := none) (F' := q10) dX10_soon_37 (clX10_359 (Nat.le_of_ble_eq_true rfl) (Nat.le_of_ble_eq_true rfl)) ho rfl ⟨_, _, _, rfl, ho, hv11, rfl, rfl⟩ rfl (Nat.le_of_ble_eq_true rfl) ?_
        refine s_aload_n (j := 0) dX10_soon_40 rfl rfl ?_
        refine s_getI dX10_soon_41 flX10_333 ho ?_
        refine s_iconst dX10_soon_44 (cin rfl) ?_
        refine s_icmp_ne (tgt := 55) dX10_soon_45 rfl (fun hc12 => ?_) (fun hc12 => ?_)
        · have h := ifp hc12 h
          refine s_iload (j := 6) dX10_soon_55 rfl ?_
          exact s_sub (ks := [0, 5]) rfl (fX10_soon_b57_ok o x5 x6 q10 _ ho h hq)
        · have h := ifn hc12 h
          refine s_aload_n (j := 0) dX10_soon_48 rfl rfl ?_
          refine s_getI dX10_soon_49 flX10_339 ho ?_
          refine s_goto (tgt := 57) dX10_soon_52 rfl ?_
          exact s_sub (ks := [0, 5]) rfl (fX10_soon_b57_ok o x5 (q10 o 40) q10 _ ho h hq)
      · have h := ifn hc9 h
        refine s_bipush dX10_soon_31 rfl (cin rfl) ?_
        have h := Option.some.inj h
        subst h
        exact s_ireturn dX10_soon_33 rfl hq
def gX10_soon : XG := fun As F r F' => ∃ o : Nat, ∃ x1 : Int, ∃ x2 : Int, ∃ x3 : Int, ∃ x4 : Int, ∃ x5 : Int, ∃ x6 : Int, ∃ res : (Int × Mem), As = [vR o, vI x1, vI x2, vI x3, vI x4, vI x5, vI x6] ∧ isK o 10 ∧ fX10_soon o x1 x2 x3 x4 x5 x6 F = some res ∧ r = some (vI res.1) ∧ F' = res.2
theorem ctX10_soon : xCT yX10_soon cX10_soon 7 (some FieldType.int) 7 159 gX10_soon := xmet (by decide +kernel) (fun As F r F' hg => by obtain ⟨o, x1, x2, x3, x4, x5, x6, res, rfl, ho, h, rfl, rfl⟩ := hg; exact Nat.le_of_ble_eq_true rfl) (fun As F r F' hg => by obtain ⟨o, x1, x2, x3, x4, x5, x6, res, rfl, ho, h, rfl, rfl⟩ := hg; exact fX10_soon_ok o x1 x2 x3 x4 x5 x6 _ _ ho h ⟨rfl, rfl⟩)
theorem mcX10_soon : Cond.code yX10_soon cX10_soon 7 (some FieldType.int) ∈ xw_T ∧ Cond.initialized yX10_soon.cls ∈ xw_T ∧ Cond.instanceMethod yX10_soon ∈ xw_T ∧ Cond.selects yX10_soon.cls yX10_soon yX10_soon ∈ xw_T := ⟨(xinT 1817 (by decide +kernel) (by decide +kernel)), (xinT 127 (by decide +kernel) (by decide +kernel)), (xinT 1815 (by decide +kernel) (by decide +kernel)), (xinT 1816 (by decide +kernel) (by decide +kernel))⟩
theorem dX10_worthOf_0 : decode cX10_worthOf 0 = .ok (.aload_n 0, 1) := by decide +kernel
theorem dX10_worthOf_1 : decode cX10_worthOf 1 = .ok (.iconst 1, 1) := by decide +kernel
theorem dX10_worthOf_2 : decode cX10_worthOf 2 = .ok (.invokevirtual 349, 3) := by decide +kernel
theorem dX10_worthOf_5 : decode cX10_worthOf 5 = .ok (.aload_n 0, 1) := by decide +kernel
theorem dX10_worthOf_6 : decode cX10_worthOf 6 = .ok (.invokevirtual 352, 3) := by decide +kernel
theorem dX10_worthOf_9 : decode cX10_worthOf 9 = .ok (.istore 4, 2) := by decide +kernel
theorem dX10_worthOf_11 : decode cX10_worthOf 11 = .ok (.aload_n 0, 1) := by decide +kernel
theorem dX10_worthOf_12 : decode cX10_worthOf 12 = .ok (.iload_n 1, 1) := by decide +kernel
theorem dX10_worthOf_13 : decode cX10_worthOf 13 = .ok (.putfield 306, 3) := by decide +kernel
theorem dX10_worthOf_16 : decode cX10_worthOf 16 = .ok (.aload_n 0, 1) := by decide +kernel
theorem dX10_worthOf_17 : decode cX10_worthOf 17 = .ok (.iload_n 2, 1) := by decide +kernel
theorem dX10_worthOf_18 : decode cX10_worthOf 18 = .ok (.putfield 288, 3) := by decide +kernel
theorem dX10_worthOf_21 : decode cX10_worthOf 21 = .ok (.aload_n 0, 1) := by decide +kernel
theorem dX10_worthOf_22 : decode cX10_worthOf 22 = .ok (.iload_n 3, 1) := by decide +kernel
theorem dX10_worthOf_23 : decode cX10_worthOf 23 = .ok (.putfield 291, 3) := by decide +kernel
theorem dX10_worthOf_26 : decode cX10_worthOf 26 = .ok (.aload_n 0, 1) := by decide +kernel
theorem dX10_worthOf_27 : decode cX10_worthOf 27 = .ok (.iconst 1, 1) := by decide +kernel
theorem dX10_worthOf_28 : decode cX10_worthOf 28 = .ok (.invokevirtual 349, 3) := by decide +kernel
theorem dX10_worthOf_31 : decode cX10_worthOf 31 = .ok (.aload_n 0, 1) := by decide +kernel
theorem dX10_worthOf_32 : decode cX10_worthOf 32 = .ok (.invokevirtual 352, 3) := by decide +kernel
theorem dX10_worthOf_35 : decode cX10_worthOf 35 = .ok (.istore 5, 2) := by decide +kernel
theorem dX10_worthOf_37 : decode cX10_worthOf 37 = .ok (.aload_n 0, 1) := by decide +kernel
theorem dX10_worthOf_38 : decode cX10_worthOf 38 = .ok (.iconst 0, 1) := by decide +kernel
theorem dX10_worthOf_39 : decode cX10_worthOf 39 = .ok (.putfield 291, 3) := by decide +kernel
theorem dX10_worthOf_42 : decode cX10_worthOf 42 = .ok (.aload_n 0, 1) := by decide +kernel
theorem dX10_worthOf_43 : decode cX10_worthOf 43 = .ok (.iconst 0, 1) := by decide +kernel
theorem dX10_worthOf_44 : decode cX10_worthOf 44 = .ok (.putfield 288, 3) := by decide +kernel
theorem dX10_worthOf_47 : decode cX10_worthOf 47 = .ok (.iload 4, 2) := by decide +kernel
theorem dX10_worthOf_49 : decode cX10_worthOf 49 = .ok (.iload 5, 2) := by decide +kernel
theorem dX10_worthOf_51 : decode cX10_worthOf 51 = .ok (.isub, 1) := by decide +kernel
theorem dX10_worthOf_52 : decode cX10_worthOf 52 = .ok (.ireturn, 1) := by decide +kernel
def zX10_worthOf (Qr : Option PV → Mem → Prop) : XZ := (RX10, 5, 121, 6, some FieldType.int, Qr)
noncomputable def fX10_worthOf (o : Nat) (x1 : Int) (x2 : Int) (x3 : Int) (F : Mem) : Option (Int × Mem) :=
  (fX10_solves o 1 F).bind fun q1 =>
  (fX10_gain o q1).bind fun r3 =>
  (fX10_solves o 1 (mset (mset (mset q1 o 35 x1) o 36 x2) o 37 x3)).bind fun q5 =>
  (fX10_gain o q5).bind fun r7 =>
  some (xw (r3 - r7), mset (mset q5 o 37 0) o 36 0)
theorem fX10_worthOf_ok {Qr : Option PV → Mem → Prop} : ∀ (o : Nat) (x1 : Int) (x2 : Int) (x3 : Int) (F : Mem) (res : (Int × Mem)) (ho : isK o 10), fX10_worthOf o x1 x2 x3 F = some res → Qr (some (vI res.1)) res.2 → PR cX10_worthOf (zX10_worthOf Qr) 0 [(0, vR o), (1, vI x1), (2, vI x2), (3, vI x3)] [] F := by
  intro o x1 x2 x3 F res ho h hq
  refine s_aload_n (j := 0) dX10_worthOf_0 rfl rfl ?_
  refine s_iconst dX10_worthOf_1 (cin rfl) ?_
  obtain ⟨q1, hv2, h⟩ := bnd h
  refine s_callV (As := [vI 1]) (rest := []) (r := none) (F' := q1) dX10_worthOf_2 (clX10_349 (Nat.le_of_ble_eq_true rfl) (Nat.le_of_ble_eq_true rfl)) ho rfl ⟨_, _, _, rfl, ho, hv2, rfl, rfl⟩ rfl (Nat.le_of_ble_eq_true rfl) ?_
  refine s_aload_n (j := 0) dX10_worthOf_5 rfl rfl ?_
  obtain ⟨r3, hv4, h⟩ := bnd h
  refine s_callV (As := []) (rest := []) (r := (some (vI r3))) (F' := q1) dX10_worthOf_6 (clX10_352 (Nat.le_of_ble_eq_true rfl) (Nat.le_of_ble_eq_true rfl)) ho rfl ⟨_, _, rfl, ho, hv4, rfl, rfl⟩ rfl (Nat.le_of_ble_eq_true rfl) ?_
  refine s_istore (ls' := [(4, vI r3), (0, vR o), (1, vI x1), (2, vI x2), (3, vI x3)]) dX10_worthOf_9 (Nat.le_of_ble_eq_true rfl) rfl ?_
  refine s_aload_n (j := 1) dX10_worthOf_11 rfl rfl ?_
  refine s_iload_n (j := 2) dX10_worthOf_12 rfl rfl ?_
  refine s_putI dX10_worthOf_13 flX10_306 fpX10_35 ho ?_
  refine s_aload_n (j := 1) dX10_worthOf_16 rfl rfl ?_
  refine s_iload_n (j := 3) dX10_worthOf_17 rfl rfl ?_
  refine s_putI dX10_worthOf_18 flX10_288 fpX10_36 ho ?_
  refine s_aload_n (j := 1) dX10_worthOf_21 rfl rfl ?_
  refine s_iload_n (j := 4) dX10_worthOf_22 rfl rfl ?_
  refine s_putI dX10_worthOf_23 flX10_291 fpX10_37 ho ?_
  refine s_aload_n (j := 1) dX10_worthOf_26 rfl rfl ?_
  refine s_iconst dX10_worthOf_27 (cin rfl) ?_
  obtain ⟨q5, hv6, h⟩ := bnd h
  refine s_callV (As := [vI 1]) (rest := []) (r := none) (F' := q5) dX10_worthOf_28 (clX10_349 (Nat.le_of_ble_eq_true rfl) (Nat.le_of_ble_eq_true rfl)) ho rfl ⟨_, _, _, rfl, ho, hv6, rfl, rfl⟩ rfl (Nat.le_of_ble_eq_true rfl) ?_
  refine s_aload_n (j := 1) dX10_worthOf_31 rfl rfl ?_
  obtain ⟨r7, hv8, h⟩ := bnd h
  refine s_callV (As := []) (rest := []) (r := (some (vI r7))) (F' := q5) dX10_worthOf_32 (clX10_352 (Nat.le_of_ble_eq_true rfl) (Nat.le_of_ble_eq_true rfl)) ho rfl ⟨_, _, rfl, ho, hv8, rfl, rfl⟩ rfl (Nat.le_of_ble_eq_true rfl) ?_
  refine s_istore dX10_worthOf_35 (Nat.le_of_ble_eq_true rfl) rfl ?_
  refine s_aload_n (j := 2) dX10_worthOf_37 rfl rfl ?_
  refine s_iconst dX10_worthOf_38 (cin rfl) ?_
  refine s_putI dX10_worthOf_39 flX10_291 fpX10_37 ho ?_
  refine s_aload_n (j := 2) dX10_worthOf_42 rfl rfl ?_
  refine s_iconst dX10_worthOf_43 (cin rfl) ?_
  refine s_putI dX10_worthOf_44 flX10_288 fpX10_36 ho ?_
  refine s_iload (j := 1) dX10_worthOf_47 rfl ?_
  refine s_iload (j := 0) dX10_worthOf_49 rfl ?_
  refine s_isub dX10_worthOf_51 ?_
  have h := Option.some.inj h
  subst h
  exact s_ireturn dX10_worthOf_52 rfl hq
def gX10_worthOf : XG := fun As F r F' => ∃ o : Nat, ∃ x1 : Int, ∃ x2 : Int, ∃ x3 : Int, ∃ res : (Int × Mem), As = [vR o, vI x1, vI x2, vI x3] ∧ isK o 10 ∧ fX10_worthOf o x1 x2 x3 F = some res ∧ r = some (vI res.1) ∧ F' = res.2
theorem ctX10_worthOf : xCT yX10_worthOf cX10_worthOf 6 (some FieldType.int) 5 121 gX10_worthOf := xmet (by decide +kernel) (fun As F r F' hg => by obtain ⟨o, x1, x2, x3, res, rfl, ho, h, rfl, rfl⟩ := hg; exact Nat.le_of_ble_eq_true rfl) (fun As F r F' hg => by obtain ⟨o, x1, x2, x3, res, rfl, ho, h, rfl, rfl⟩ := hg; exact fX10_worthOf_ok o x1 x2 x3 _ _ ho h ⟨rfl, rfl⟩)
theorem mcX10_worthOf : Cond.code yX10_worthOf cX10_worthOf 6 (some FieldType.int) ∈ xw_T ∧ Cond.initialized yX10_worthOf.cls ∈ xw_T ∧ Cond.instanceMethod yX10_worthOf ∈ xw_T ∧ Cond.selects yX10_worthOf.cls yX10_worthOf yX10_worthOf ∈ xw_T := ⟨(xinT 1825 (by decide +kernel) (by decide +kernel)), (xinT 127 (by decide +kernel) (by decide +kernel)), (xinT 1824 (by decide +kernel) (by decide +kernel)), (xinT 99 (by decide +kernel) (by decide +kernel))⟩
theorem clX10_368 {fr lo : Nat} (h1 : 5 + 1 ≤ fr) (h2 : 8 + (6 + 11) + 121 ≤ lo) : xCall RX10 fr lo 0 368 10 3 gX10_worthOf := ⟨_, _, _, _, _, _, ctX10_worthOf, h1, h2, mcX10_worthOf.1, (xinT 1822 (by decide +kernel) (by decide +kernel)), mcX10_worthOf.2.1, ⟨by decide +kernel, by decide +kernel, by decide +kernel⟩, by rw [if_pos rfl]; exact ⟨mcX10_worthOf.2.2.1, mcX10_worthOf.2.2.2, _, _, rfl⟩⟩
theorem dX10_worth_0 : decode cX10_worth 0 = .ok (.aload_n 0, 1) := by decide +kernel
theorem dX10_worth_1 : decode cX10_worth 1 = .ok (.iload_n 1, 1) := by decide +kernel
theorem dX10_worth_2 : decode cX10_worth 2 = .ok (.iload_n 2, 1) := by decide +kernel
theorem dX10_worth_3 : decode cX10_worth 3 = .ok (.iload_n 3, 1) := by decide +kernel
theorem dX10_worth_4 : decode cX10_worth 4 = .ok (.iload 4, 2) := by decide +kernel
theorem dX10_worth_6 : decode cX10_worth 6 = .ok (.iconst 1, 1) := by decide +kernel
theorem dX10_worth_7 : decode cX10_worth 7 = .ok (.invokevirtual 355, 3) := by decide +kernel
theorem dX10_worth_10 : decode cX10_worth 10 = .ok (.ifCond .eq 42, 3) := by decide +kernel
theorem dX10_worth_13 : decode cX10_worth 13 = .ok (.iload 5, 2) := by decide +kernel
theorem dX10_worth_15 : decode cX10_worth 15 = .ok (.iconst (-1), 1) := by decide +kernel
theorem dX10_worth_16 : decode cX10_worth 16 = .ok (.if_icmp .eq 12, 3) := by decide +kernel
theorem dX10_worth_19 : decode cX10_worth 19 = .ok (.aload_n 0, 1) := by decide +kernel
theorem dX10_worth_20 : decode cX10_worth 20 = .ok (.iload 5, 2) := by decide +kernel
theorem dX10_worth_22 : decode cX10_worth 22 = .ok (.invokevirtual 189, 3) := by decide +kernel
theorem dX10_worth_25 : decode cX10_worth 25 = .ok (.ifCond .eq 27, 3) := by decide +kernel
theorem dX10_worth_28 : decode cX10_worth 28 = .ok (.aload_n 0, 1) := by decide +kernel
theorem dX10_worth_29 : decode cX10_worth 29 = .ok (.iload 6, 2) := by decide +kernel
theorem dX10_worth_31 : decode cX10_worth 31 = .ok (.iload 7, 2) := by decide +kernel
theorem dX10_worth_33 : decode cX10_worth 33 = .ok (.invokevirtual 362, 3) := by decide +kernel
theorem dX10_worth_36 : decode cX10_worth 36 = .ok (.ifCond .eq 16, 3) := by decide +kernel
theorem dX10_worth_39 : decode cX10_worth 39 = .ok (.aload_n 0, 1) := by decide +kernel
theorem dX10_worth_40 : decode cX10_worth 40 = .ok (.iload 5, 2) := by decide +kernel
theorem dX10_worth_42 : decode cX10_worth 42 = .ok (.iload 6, 2) := by decide +kernel
theorem dX10_worth_44 : decode cX10_worth 44 = .ok (.iload 7, 2) := by decide +kernel
theorem dX10_worth_46 : decode cX10_worth 46 = .ok (.invokevirtual 368, 3) := by decide +kernel
theorem dX10_worth_49 : decode cX10_worth 49 = .ok (.goto 5, 3) := by decide +kernel
theorem dX10_worth_52 : decode cX10_worth 52 = .ok (.bipush (-2), 2) := by decide +kernel
theorem dX10_worth_54 : decode cX10_worth 54 = .ok (.ireturn, 1) := by decide +kernel
def zX10_worth (Qr : Option PV → Mem → Prop) : XZ := (RX10, 7, 159, 8, some FieldType.int, Qr)
noncomputable def fX10_worth_b28 (o : Nat) (x5 : Int) (x6 : Int) (x7 : Int) (F : Mem) : Option (Int × Mem) :=
  (fX10_areSlots o x6 x7 F).bind fun r1 =>
  if r1 = 0 then
    some ((-2), F)
  else
    (fX10_worthOf o x5 x6 x7 F).bind fun q4 =>
    some (q4.1, q4.2)
noncomputable def fX10_worth (o : Nat) (x1 : Int) (x2 : Int) (x3 : Int) (x4 : Int) (x5 : Int) (x6 : Int) (x7 : Int) (F : Mem) : Option (Int × Mem) :=
  (fX10_isAsked o x1 x2 x3 x4 1 F).bind fun q1 =>
  if q1.1 = 0 then
    some ((-2), q1.2)
  else
    if x5 = (-1) then
      fX10_worth_b28 o x5 x6 x7 q1.2
    else
      (fX10_isHouse o x5 q1.2).bind fun r5 =>
      if r5 = 0 then
        some ((-2), q1.2)
      else
        fX10_worth_b28 o x5 x6 x7 q1.2
theorem fX10_worth_b28_ok {Qr : Option PV → Mem → Prop}  : ∀ (o : Nat) (x5 : Int) (x6 : Int) (x7 : Int) (F : Mem) (res : (Int × Mem)) (ho : isK o 10), fX10_worth_b28 o x5 x6 x7 F = some res → Qr (some (vI res.1)) res.2 → PR cX10_worth (zX10_worth Qr) 28 [(0, vR o), (5, vI x5), (6, vI x6), (7, vI x7)] [] F := by
  intro o x5 x6 x7 F res ho h hq
  refine s_aload_n (j := 0) dX10_worth_28 rfl rfl ?_
  refine s_iload (j := 2) dX10_worth_29 rfl ?_
  refine s_iload (j := 3) dX10_worth_31 rfl ?_
  obtain ⟨r1, hv2, h⟩ := bnd h
  refine s_callV (As := [vI x6, vI x7]) (rest := []) (r := (some (vI r1))) (F' := F) dX10_worth_33 (clX10_362 (Nat.le_of_ble_eq_true rfl) (Nat.le_of_ble_eq_true rfl)) ho rfl ⟨_, _, _, _, rfl, ho, hv2, rfl, rfl⟩ rfl (Nat.le_of_ble_eq_true rfl) ?_
  refine s_if_eq (tgt := 52) dX10_worth_36 rfl (fun hc3 => ?_) (fun hc3 => ?_)
  · have h := ifp hc3 h
    refine s_bipush dX10_worth_52 rfl (cin rfl) ?_
    have h := Option.some.inj h
    subst h
    exact s_ireturn dX10_worth_54 rfl hq
  · have h := ifn hc3 h
    refine s_aload_n (j := 0) dX10_worth_39 rfl rfl ?_
    refine s_iload (j := 1) dX10_worth_40 rfl ?_
    refine s_iload (j := 2) dX10_worth_42 rfl ?_
    refine s_iload (j := 3) dX10_worth_44 rfl ?_
    obtain ⟨q4, hv5, h⟩ := bnd h
    refine s_callV (As := [vI x5, vI x6, vI x7]) (rest := []) (r := (some (vI q4.1))) (F' := q4.2) dX10_worth_46 (clX10_368 (Nat.le_of_ble_eq_true rfl) (Nat.le_of_ble_eq_true rfl)) ho rfl ⟨_, _, _, _, _, rfl, ho, hv5, rfl, rfl⟩ rfl (Nat.le_of_ble_eq_true rfl) ?_
    refine s_goto (tgt := 54) dX10_worth_49 rfl ?_
    have h := Option.some.inj h
    subst h
    exact s_ireturn dX10_worth_54 rfl hq
theorem fX10_worth_ok {Qr : Option PV → Mem → Prop} : ∀ (o : Nat) (x1 : Int) (x2 : Int) (x3 : Int) (x4 : Int) (x5 : Int) (x6 : Int) (x7 : Int) (F : Mem) (res : (Int × Mem)) (ho : isK o 10), fX10_worth o x1 x2 x3 x4 x5 x6 x7 F = some res → Qr (some (vI res.1)) res.2 → PR cX10_worth (zX10_worth Qr) 0 [(0, vR o), (1, vI x1), (2, vI x2), (3, vI x3), (4, vI x4), (5, vI x5), (6, vI x6), (7, vI x7)] [] F := by
  intro o x1 x2 x3 x4 x5 x6 x7 F res ho h hq
  refine s_aload_n (j := 0) dX10_worth_0 rfl rfl ?_
  refine s_iload_n (j := 1) dX10_worth_1 rfl rfl ?_
  refine s_iload_n (j := 2) dX10_worth_2 rfl rfl ?_
  refine s_iload_n (j := 3) dX10_worth_3 rfl rfl ?_
  refine s_iload (j := 4) dX10_worth_4 rfl ?_
  refine s_iconst dX10_worth_6 (cin rfl) ?_
  obtain ⟨q1, hv2, h⟩ := bnd h
  refine s_callV (As := [vI x1, vI x2, vI x3, vI x4, vI 1]) (rest := []) (r := (some (vI q1.1))) (F' := q1.2) dX10_worth_7 (clX10_355 (Nat.le_of_ble_eq_true rfl) (Nat.le_of_ble_eq_true rfl)) ho rfl ⟨_, _, _, _, _, _, _, rfl, ho, hv2, rfl, rfl⟩ rfl (Nat.le_of_ble_eq_true rfl) ?_
  refine s_if_eq (tgt := 52) dX10_worth_10 rfl (fun hc3 => ?_) (fun hc3 => ?_)
  · have h := ifp hc3 h
    refine s_bipush dX10_worth_52 rfl (cin rfl) ?_
    have h := Option.some.inj h
    subst h
    exact s_ireturn dX10_worth_54 rfl hq
  · have h := ifn hc3 h
    refine s_iload (j := 5) dX10_worth_13 rfl ?_
    refine s_iconst dX10_worth_15 (cin rfl) ?_
    refine s_icmp_eq (tgt := 28) dX10_worth_16 rfl (fun hc4 => ?_) (fun hc4 => ?_)
    · have h := ifp hc4 h
      exact s_sub (ks := [0, 5, 6, 7]) rfl (fX10_worth_b28_ok o x5 x6 x7 q1.2 _ ho h hq)
    · have h := ifn hc4 h
      refine s_aload_n (j := 0) dX10_worth_19 rfl rfl ?_
      refine s_iload (j := 5) dX10_worth_20 rfl ?_
      obtain ⟨r5, hv6, h⟩ := bnd h
      refine s_callV (As := [vI x5]) (rest := []) (r := (some (vI r5))) (F' := q1.2) dX10_worth_22 (clX10_189 (Nat.le_of_ble_eq_true rfl) (Nat.le_of_ble_eq_true rfl)) ho rfl ⟨_, _, _, rfl, ho, hv6, rfl, rfl⟩ rfl (Nat.le_of_ble_eq_true rfl) ?_
      refine s_if_eq (tgt := 52) dX10_worth_25 rfl (fun hc7 => ?_) (fun hc7 => ?_)
      · have h := ifp hc7 h
        refine s_bipush dX10_worth_52 rfl (cin rfl) ?_
        have h := Option.some.inj h
        subst h
        exact s_ireturn dX10_worth_54 rfl hq
      · have h := ifn hc7 h
        exact s_sub (ks := [0, 5, 6, 7]) rfl (fX10_worth_b28_ok o x5 x6 x7 q1.2 _ ho h hq)
def gX10_worth : XG := fun As F r F' => ∃ o : Nat, ∃ x1 : Int, ∃ x2 : Int, ∃ x3 : Int, ∃ x4 : Int, ∃ x5 : Int, ∃ x6 : Int, ∃ x7 : Int, ∃ res : (Int × Mem), As = [vR o, vI x1, vI x2, vI x3, vI x4, vI x5, vI x6, vI x7] ∧ isK o 10 ∧ fX10_worth o x1 x2 x3 x4 x5 x6 x7 F = some res ∧ r = some (vI res.1) ∧ F' = res.2
theorem ctX10_worth : xCT yX10_worth cX10_worth 8 (some FieldType.int) 7 159 gX10_worth := xmet (by decide +kernel) (fun As F r F' hg => by obtain ⟨o, x1, x2, x3, x4, x5, x6, x7, res, rfl, ho, h, rfl, rfl⟩ := hg; exact Nat.le_of_ble_eq_true rfl) (fun As F r F' hg => by obtain ⟨o, x1, x2, x3, x4, x5, x6, x7, res, rfl, ho, h, rfl, rfl⟩ := hg; exact fX10_worth_ok o x1 x2 x3 x4 x5 x6 x7 _ _ ho h ⟨rfl, rfl⟩)
theorem mcX10_worth : Cond.code yX10_worth cX10_worth 8 (some FieldType.int) ∈ xw_T ∧ Cond.initialized yX10_worth.cls ∈ xw_T ∧ Cond.instanceMethod yX10_worth ∈ xw_T ∧ Cond.selects yX10_worth.cls yX10_worth yX10_worth ∈ xw_T := ⟨(xinT 1821 (by decide +kernel) (by decide +kernel)), (xinT 127 (by decide +kernel) (by decide +kernel)), (xinT 1819 (by decide +kernel) (by decide +kernel)), (xinT 1820 (by decide +kernel) (by decide +kernel))⟩
theorem dX10_pays_0 : decode cX10_pays 0 = .ok (.iload 8, 2) := by decide +kernel
theorem dX10_pays_2 : decode cX10_pays 2 = .ok (.iconst 0, 1) := by decide +kernel
theorem dX10_pays_3 : decode cX10_pays 3 = .ok (.bipush 100, 2) := by decide +kernel
theorem dX10_pays_5 : decode cX10_pays 5 = .ok (.invokestatic 115, 3) := by decide +kernel
theorem dX10_pays_8 : decode cX10_pays 8 = .ok (.ifCond .eq 36, 3) := by decide +kernel
theorem dX10_pays_11 : decode cX10_pays 11 = .ok (.aload_n 0, 1) := by decide +kernel
theorem dX10_pays_12 : decode cX10_pays 12 = .ok (.iload_n 1, 1) := by decide +kernel
theorem dX10_pays_13 : decode cX10_pays 13 = .ok (.iload_n 2, 1) := by decide +kernel
theorem dX10_pays_14 : decode cX10_pays 14 = .ok (.iload_n 3, 1) := by decide +kernel
theorem dX10_pays_15 : decode cX10_pays 15 = .ok (.iload 4, 2) := by decide +kernel
theorem dX10_pays_17 : decode cX10_pays 17 = .ok (.iconst 1, 1) := by decide +kernel
theorem dX10_pays_18 : decode cX10_pays 18 = .ok (.invokevirtual 355, 3) := by decide +kernel
theorem dX10_pays_21 : decode cX10_pays 21 = .ok (.ifCond .eq 23, 3) := by decide +kernel
theorem dX10_pays_24 : decode cX10_pays 24 = .ok (.aload_n 0, 1) := by decide +kernel
theorem dX10_pays_25 : decode cX10_pays 25 = .ok (.iload 5, 2) := by decide +kernel
theorem dX10_pays_27 : decode cX10_pays 27 = .ok (.invokevirtual 189, 3) := by decide +kernel
theorem dX10_pays_30 : decode cX10_pays 30 = .ok (.ifCond .eq 14, 3) := by decide +kernel
theorem dX10_pays_33 : decode cX10_pays 33 = .ok (.aload_n 0, 1) := by decide +kernel
theorem dX10_pays_34 : decode cX10_pays 34 = .ok (.iload 6, 2) := by decide +kernel
theorem dX10_pays_36 : decode cX10_pays 36 = .ok (.iload 7, 2) := by decide +kernel
theorem dX10_pays_38 : decode cX10_pays 38 = .ok (.invokevirtual 362, 3) := by decide +kernel
theorem dX10_pays_41 : decode cX10_pays 41 = .ok (.ifCond .ne 5, 3) := by decide +kernel
theorem dX10_pays_44 : decode cX10_pays 44 = .ok (.iconst 0, 1) := by decide +kernel
theorem dX10_pays_45 : decode cX10_pays 45 = .ok (.ireturn, 1) := by decide +kernel
theorem dX10_pays_46 : decode cX10_pays 46 = .ok (.aload_n 0, 1) := by decide +kernel
theorem dX10_pays_47 : decode cX10_pays 47 = .ok (.iload 5, 2) := by decide +kernel
theorem dX10_pays_49 : decode cX10_pays 49 = .ok (.iload 6, 2) := by decide +kernel
theorem dX10_pays_51 : decode cX10_pays 51 = .ok (.iload 7, 2) := by decide +kernel
theorem dX10_pays_53 : decode cX10_pays 53 = .ok (.invokevirtual 365, 3) := by decide +kernel
theorem dX10_pays_56 : decode cX10_pays 56 = .ok (.istore 9, 2) := by decide +kernel
theorem dX10_pays_58 : decode cX10_pays 58 = .ok (.iload 9, 2) := by decide +kernel
theorem dX10_pays_60 : decode cX10_pays 60 = .ok (.ifCond .lt 27, 3) := by decide +kernel
theorem dX10_pays_63 : decode cX10_pays 63 = .ok (.iload 8, 2) := by decide +kernel
theorem dX10_pays_65 : decode cX10_pays 65 = .ok (.iload 9, 2) := by decide +kernel
theorem dX10_pays_67 : decode cX10_pays 67 = .ok (.imul, 1) := by decide +kernel
theorem dX10_pays_68 : decode cX10_pays 68 = .ok (.bipush 100, 2) := by decide +kernel
theorem dX10_pays_70 : decode cX10_pays 70 = .ok (.aload_n 0, 1) := by decide +kernel
theorem dX10_pays_71 : decode cX10_pays 71 = .ok (.iconst (-1), 1) := by decide +kernel
theorem dX10_pays_72 : decode cX10_pays 72 = .ok (.iload 6, 2) := by decide +kernel
theorem dX10_pays_74 : decode cX10_pays 74 = .ok (.iload 7, 2) := by decide +kernel
theorem dX10_pays_76 : decode cX10_pays 76 = .ok (.invokevirtual 368, 3) := by decide +kernel
theorem dX10_pays_79 : decode cX10_pays 79 = .ok (.imul, 1) := by decide +kernel
theorem dX10_pays_80 : decode cX10_pays 80 = .ok (.if_icmp .le 7, 3) := by decide +kernel
theorem dX10_pays_83 : decode cX10_pays 83 = .ok (.iconst 1, 1) := by decide +kernel
theorem dX10_pays_84 : decode cX10_pays 84 = .ok (.goto 4, 3) := by decide +kernel
theorem dX10_pays_87 : decode cX10_pays 87 = .ok (.iconst 0, 1) := by decide +kernel
theorem dX10_pays_88 : decode cX10_pays 88 = .ok (.ireturn, 1) := by decide +kernel
def zX10_pays (Qr : Option PV → Mem → Prop) : XZ := (RX10, 7, 159, 10, some FieldType.boolean, Qr)
noncomputable def fX10_pays (o : Nat) (x1 : Int) (x2 : Int) (x3 : Int) (x4 : Int) (x5 : Int) (x6 : Int) (x7 : Int) (x8 : Int) (F : Mem) : Option (Int × Mem) :=
  if (fX10_isIn x8 0 100) = 0 then
    some (0, F)
  else
    (fX10_isAsked o x1 x2 x3 x4 1 F).bind fun q2 =>
    if q2.1 = 0 then
      some (0, q2.2)
    else
      (fX10_isHouse o x5 q2.2).bind fun r5 =>
      if r5 = 0 then
        some (0, q2.2)
      else
        (fX10_areSlots o x6 x7 q2.2).bind fun r8 =>
        if r8 ≠ 0 then
          (fX10_harmOf o x5 x6 x7 q2.2).bind fun q11 =>
          if q11.1 < 0 then
            some (0, q11.2)
          else
            (fX10_worthOf o (-1) x6 x7 q11.2).bind fun q14 =>
            if (xw (x8 * q11.1)) ≤ (xw (100 * q14.1)) then
              some (0, q14.2)
            else
              some (1, q14.2)
        else
          some (0, q2.2)
theorem fX10_pays_ok {Qr : Option PV → Mem → Prop} : ∀ (o : Nat) (x1 : Int) (x2 : Int) (x3 : Int) (x4 : Int) (x5 : Int) (x6 : Int) (x7 : Int) (x8 : Int) (F : Mem) (res : (Int × Mem)) (ho : isK o 10), fX10_pays o x1 x2 x3 x4 x5 x6 x7 x8 F = some res → Qr (some (vI res.1)) res.2 → PR cX10_pays (zX10_pays Qr) 0 [(0, vR o), (1, vI x1), (2, vI x2), (3, vI x3), (4, vI x4), (5, vI x5), (6, vI x6), (7, vI x7), (8, vI x8)] [] F := by
  intro o x1 x2 x3 x4 x5 x6 x7 x8 F res ho h hq
  refine s_iload (j := 8) dX10_pays_0 rfl ?_
  refine s_iconst dX10_pays_2 (cin rfl) ?_
  refine s_bipush dX10_pays_3 rfl (cin rfl) ?_
  refine s_callS (As := [vI x8, vI 0, vI 100]) (rest := []) (r := (some (vI (fX10_isIn x8 0 100)))) (F' := F) dX10_pays_5 (clX10_115 (Nat.le_of_ble_eq_true rfl) (Nat.le_of_ble_eq_true rfl)) rfl ⟨_, _, _, _, rfl, rfl, rfl, rfl⟩ rfl (Nat.le_of_ble_eq_true rfl) ?_
  refine s_if_eq (tgt := 44) dX10_pays_8 rfl (fun hc1 => ?_) (fun hc1 => ?_)
  · have h := ifp hc1 h
    refine s_iconst dX10_pays_44 (cin rfl) ?_
    have h := Option.some.inj h
    subst h
    exact s_zreturn dX10_pays_45 rfl (Or.inl rfl) hq
  · have h := ifn hc1 h
    refine s_aload_n (j := 0) dX10_pays_11 rfl rfl ?_
    refine s_iload_n (j := 1) dX10_pays_12 rfl rfl ?_
    refine s_iload_n (j := 2) dX10_pays_13 rfl rfl ?_
    refine s_iload_n (j := 3) dX10_pays_14 rfl rfl ?_
    refine s_iload (j := 4) dX10_pays_15 rfl ?_
    refine s_iconst dX10_pays_17 (cin rfl) ?_
    obtain ⟨q2, hv3, h⟩ := bnd h
    refine s_callV (As := [vI x1, vI x2, vI x3, vI x4, vI 1]) (rest := []) (r := (some (vI q2.1))) (F' := q2.2) dX10_pays_18 (clX10_355 (Nat.le_of_ble_eq_true rfl) (Nat.le_of_ble_eq_true rfl)) ho rfl ⟨_, _, _, _, _, _, _, rfl, ho, hv3, rfl, rfl⟩ rfl (Nat.le_of_ble_eq_true rfl) ?_
    refine s_if_eq (tgt := 44) dX10_pays_21 rfl (fun hc4 => ?_) (fun hc4 => ?_)
    · have h := ifp hc4 h
      refine s_iconst dX10_pays_44 (cin rfl) ?_
      have h := Option.some.inj h
      subst h
      exact s_zreturn dX10_pays_45 rfl (Or.inl rfl) hq
    · have h := ifn hc4 h
      refine s_aload_n (j := 0) dX10_pays_24 rfl rfl ?_
      refine s_iload (j := 5) dX10_pays_25 rfl ?_
      obtain ⟨r5, hv6, h⟩ := bnd h
      refine s_callV (As := [vI x5]) (rest := []) (r := (some (vI r5))) (F' := q2.2) dX10_pays_27 (clX10_189 (Nat.le_of_ble_eq_true rfl) (Nat.le_of_ble_eq_true rfl)) ho rfl ⟨_, _, _, rfl, ho, hv6, rfl, rfl⟩ rfl (Nat.le_of_ble_eq_true rfl) ?_
      refine s_if_eq (tgt := 44) dX10_pays_30 rfl (fun hc7 => ?_) (fun hc7 => ?_)
      · have h := ifp hc7 h
        refine s_iconst dX10_pays_44 (cin rfl) ?_
        have h := Option.some.inj h
        subst h
        exact s_zreturn dX10_pays_45 rfl (Or.inl rfl) hq
      · have h := ifn hc7 h
        refine s_aload_n (j := 0) dX10_pays_33 rfl rfl ?_
        refine s_iload (j := 6) dX10_pays_34 rfl ?_
        refine s_iload (j := 7) dX10_pays_36 rfl ?_
        obtain ⟨r8, hv9, h⟩ := bnd h
        refine s_callV (As := [vI x6, vI x7]) (rest := []) (r := (some (vI r8))) (F' := q2.2) dX10_pays_38 (clX10_362 (Nat.le_of_ble_eq_true rfl) (Nat.le_of_ble_eq_true rfl)) ho rfl ⟨_, _, _, _, rfl, ho, hv9, rfl, rfl⟩ rfl (Nat.le_of_ble_eq_true rfl) ?_
        refine s_if_ne (tgt := 46) dX10_pays_41 rfl (fun hc10 => ?_) (fun hc10 => ?_)
        · have h := ifp hc10 h
          refine s_aload_n (j := 0) dX10_pays_46 rfl rfl ?_
          refine s_iload (j := 5) dX10_pays_47 rfl ?_
          refine s_iload (j := 6) dX10_pays_49 rfl ?_
          refine s_iload (j := 7) dX10_pays_51 rfl ?_
          obtain ⟨q11, hv12, h⟩ := bnd h
          refine s_callV (As := [vI x5, vI x6, vI x7]) (rest := []) (r := (some (vI q11.1))) (F' := q11.2) dX10_pays_53 (clX10_365 (Nat.le_of_ble_eq_true rfl) (Nat.le_of_ble_eq_true rfl)) ho rfl ⟨_, _, _, _, _, rfl, ho, hv12, rfl, rfl⟩ rfl (Nat.le_of_ble_eq_true rfl) ?_
          refine s_istore (ls' := [(9, vI q11.1), (0, vR o), (1, vI x1), (2, vI x2), (3, vI x3), (4, vI x4), (5, vI x5), (6, vI x6), (7, vI x7), (8, vI x8)]) dX10_pays_56 (Nat.le_of_ble_eq_true rfl) rfl ?_
          refine s_iload (j := 0) dX10_pays_58 rfl ?_
          refine s_if_lt (tgt := 87) dX10_pays_60 rfl (fun hc13 => ?_) (fun hc13 => ?_)
          · have h := ifp hc13 h
            refine s_iconst dX10_pays_87 (cin rfl) ?_
            have h := Option.some.inj h
            subst h
            exact s_zreturn dX10_pays_88 rfl (Or.inl rfl) hq
          · have h := ifn hc13 h
            refine s_iload (j := 9) dX10_pays_63 rfl ?_
            refine s_iload (j := 0) dX10_pays_65 rfl ?_
            refine s_imul dX10_pays_67 ?_
            refine s_bipush dX10_pays_68 rfl (cin rfl) ?_
            refine s_aload_n (j := 1) dX10_pays_70 rfl rfl ?_
            refine s_iconst dX10_pays_71 (cin rfl) ?_
            refine s_iload (j := 7) dX10_pays_72 rfl ?_
            refine s_iload (j := 8) dX10_pays_74 rfl ?_
            obtain ⟨q14, hv15, h⟩ := bnd h
            refine s_callV (As := [vI (-1), vI x6, vI x7]) (rest := [vI 100, vI (xw (x8 * q11.1))]) (r := (some (vI q14.1))) (F' := q14.2) dX10_pays_76 (clX10_368 (Nat.le_of_ble_eq_true rfl) (Nat.le_of_ble_eq_true rfl)) ho rfl ⟨_, _, _, _, _, rfl, ho, hv15, rfl, rfl⟩ rfl (Nat.le_of_ble_eq_true rfl) ?_
            refine s_imul dX10_pays_79 ?_
            refine s_icmp_le (tgt := 87) dX10_pays_80 rfl (fun hc16 => ?_) (fun hc16 => ?_)
            · have h := ifp hc16 h
              refine s_iconst dX10_pays_87 (cin rfl) ?_
              have h := Option.some.inj h
              subst h
              exact s_zreturn dX10_pays_88 rfl (Or.inl rfl) hq
            · have h := ifn hc16 h
              refine s_iconst dX10_pays_83 (cin rfl) ?_
              refine s_goto (tgt := 88) dX10_pays_84 rfl ?_
              have h := Option.some.inj h
              subst h
              exact s_zreturn dX10_pays_88 rfl (Or.inr rfl) hq
        · have h := ifn hc10 h
          refine s_iconst dX10_pays_44 (cin rfl) ?_
          have h := Option.some.inj h
          subst h
          exact s_zreturn dX10_pays_45 rfl (Or.inl rfl) hq
def gX10_pays : XG := fun As F r F' => ∃ o : Nat, ∃ x1 : Int, ∃ x2 : Int, ∃ x3 : Int, ∃ x4 : Int, ∃ x5 : Int, ∃ x6 : Int, ∃ x7 : Int, ∃ x8 : Int, ∃ res : (Int × Mem), As = [vR o, vI x1, vI x2, vI x3, vI x4, vI x5, vI x6, vI x7, vI x8] ∧ isK o 10 ∧ fX10_pays o x1 x2 x3 x4 x5 x6 x7 x8 F = some res ∧ r = some (vI res.1) ∧ F' = res.2
theorem ctX10_pays : xCT yX10_pays cX10_pays 10 (some FieldType.boolean) 7 159 gX10_pays := xmet (by decide +kernel) (fun As F r F' hg => by obtain ⟨o, x1, x2, x3, x4, x5, x6, x7, x8, res, rfl, ho, h, rfl, rfl⟩ := hg; exact Nat.le_of_ble_eq_true rfl) (fun As F r F' hg => by obtain ⟨o, x1, x2, x3, x4, x5, x6, x7, x8, res, rfl, ho, h, rfl, rfl⟩ := hg; exact fX10_pays_ok o x1 x2 x3 x4 x5 x6 x7 x8 _ _ ho h ⟨rfl, rfl⟩)
theorem mcX10_pays : Cond.code yX10_pays cX10_pays 10 (some FieldType.boolean) ∈ xw_T ∧ Cond.initialized yX10_pays.cls ∈ xw_T ∧ Cond.instanceMethod yX10_pays ∈ xw_T ∧ Cond.selects yX10_pays.cls yX10_pays yX10_pays ∈ xw_T := ⟨(xinT 1829 (by decide +kernel) (by decide +kernel)), (xinT 127 (by decide +kernel) (by decide +kernel)), (xinT 1827 (by decide +kernel) (by decide +kernel)), (xinT 1828 (by decide +kernel) (by decide +kernel))⟩
theorem dX10_deals_0 : decode cX10_deals 0 = .ok (.aload_n 0, 1) := by decide +kernel
theorem dX10_deals_1 : decode cX10_deals 1 = .ok (.invokevirtual 352, 3) := by decide +kernel
theorem dX10_deals_4 : decode cX10_deals 4 = .ok (.istore_n 3, 1) := by decide +kernel
theorem dX10_deals_5 : decode cX10_deals 5 = .ok (.aload_n 0, 1) := by decide +kernel
theorem dX10_deals_6 : decode cX10_deals 6 = .ok (.iconst (-1), 1) := by decide +kernel
theorem dX10_deals_7 : decode cX10_deals 7 = .ok (.putfield 371, 3) := by decide +kernel
theorem dX10_deals_10 : decode cX10_deals 10 = .ok (.aload_n 0, 1) := by decide +kernel
theorem dX10_deals_11 : decode cX10_deals 11 = .ok (.iconst 0, 1) := by decide +kernel
theorem dX10_deals_12 : decode cX10_deals 12 = .ok (.putfield 374, 3) := by decide +kernel
theorem dX10_deals_15 : decode cX10_deals 15 = .ok (.iconst 0, 1) := by decide +kernel
theorem dX10_deals_16 : decode cX10_deals 16 = .ok (.istore 4, 2) := by decide +kernel
theorem dX10_deals_18 : decode cX10_deals 18 = .ok (.iload 4, 2) := by decide +kernel
theorem dX10_deals_20 : decode cX10_deals 20 = .ok (.aload_n 0, 1) := by decide +kernel
theorem dX10_deals_21 : decode cX10_deals 21 = .ok (.iconst 0, 1) := by decide +kernel
theorem dX10_deals_22 : decode cX10_deals 22 = .ok (.invokevirtual 181, 3) := by decide +kernel
theorem dX10_deals_25 : decode cX10_deals 25 = .ok (.if_icmp .ge 157, 3) := by decide +kernel
theorem dX10_deals_28 : decode cX10_deals 28 = .ok (.iload 4, 2) := by decide +kernel
theorem dX10_deals_30 : decode cX10_deals 30 = .ok (.istore 5, 2) := by decide +kernel
theorem dX10_deals_32 : decode cX10_deals 32 = .ok (.iload 5, 2) := by decide +kernel
theorem dX10_deals_34 : decode cX10_deals 34 = .ok (.aload_n 0, 1) := by decide +kernel
theorem dX10_deals_35 : decode cX10_deals 35 = .ok (.iconst 0, 1) := by decide +kernel
theorem dX10_deals_36 : decode cX10_deals 36 = .ok (.invokevirtual 181, 3) := by decide +kernel
theorem dX10_deals_39 : decode cX10_deals 39 = .ok (.if_icmp .ge 137, 3) := by decide +kernel
theorem dX10_deals_42 : decode cX10_deals 42 = .ok (.aload_n 0, 1) := by decide +kernel
theorem dX10_deals_43 : decode cX10_deals 43 = .ok (.getfield 33, 3) := by decide +kernel
theorem dX10_deals_46 : decode cX10_deals 46 = .ok (.bipush 48, 2) := by decide +kernel
theorem dX10_deals_48 : decode cX10_deals 48 = .ok (.aload_n 0, 1) := by decide +kernel
theorem dX10_deals_49 : decode cX10_deals 49 = .ok (.getfield 303, 3) := by decide +kernel
theorem dX10_deals_52 : decode cX10_deals 52 = .ok (.imul, 1) := by decide +kernel
theorem dX10_deals_53 : decode cX10_deals 53 = .ok (.iload 5, 2) := by decide +kernel
theorem dX10_deals_55 : decode cX10_deals 55 = .ok (.iadd, 1) := by decide +kernel
theorem dX10_deals_56 : decode cX10_deals 56 = .ok (.iaload, 1) := by decide +kernel
theorem dX10_deals_57 : decode cX10_deals 57 = .ok (.iload_n 1, 1) := by decide +kernel
theorem dX10_deals_58 : decode cX10_deals 58 = .ok (.if_icmp .ne 118, 3) := by decide +kernel
theorem dX10_deals_61 : decode cX10_deals 61 = .ok (.iinc 5 1, 3) := by decide +kernel
theorem dX10_deals_64 : decode cX10_deals 64 = .ok (.iload 4, 2) := by decide +kernel
theorem dX10_deals_66 : decode cX10_deals 66 = .ok (.istore 6, 2) := by decide +kernel
theorem dX10_deals_68 : decode cX10_deals 68 = .ok (.iload 6, 2) := by decide +kernel
theorem dX10_deals_70 : decode cX10_deals 70 = .ok (.iload 5, 2) := by decide +kernel
theorem dX10_deals_72 : decode cX10_deals 72 = .ok (.if_icmp .ge 25, 3) := by decide +kernel
theorem dX10_deals_75 : decode cX10_deals 75 = .ok (.aload_n 0, 1) := by decide +kernel
theorem dX10_deals_76 : decode cX10_deals 76 = .ok (.getfield 33, 3) := by decide +kernel
theorem dX10_deals_79 : decode cX10_deals 79 = .ok (.bipush 48, 2) := by decide +kernel
theorem dX10_deals_81 : decode cX10_deals 81 = .ok (.aload_n 0, 1) := by decide +kernel
theorem dX10_deals_82 : decode cX10_deals 82 = .ok (.getfield 303, 3) := by decide +kernel
theorem dX10_deals_85 : decode cX10_deals 85 = .ok (.imul, 1) := by decide +kernel
theorem dX10_deals_86 : decode cX10_deals 86 = .ok (.iload 6, 2) := by decide +kernel
theorem dX10_deals_88 : decode cX10_deals 88 = .ok (.iadd, 1) := by decide +kernel
theorem dX10_deals_89 : decode cX10_deals 89 = .ok (.iload_n 2, 1) := by decide +kernel
theorem dX10_deals_90 : decode cX10_deals 90 = .ok (.iastore, 1) := by decide +kernel
theorem dX10_deals_91 : decode cX10_deals 91 = .ok (.iinc 6 1, 3) := by decide +kernel
theorem dX10_deals_94 : decode cX10_deals 94 = .ok (.goto (-26), 3) := by decide +kernel
theorem dX10_deals_97 : decode cX10_deals 97 = .ok (.aload_n 0, 1) := by decide +kernel
theorem dX10_deals_98 : decode cX10_deals 98 = .ok (.iconst 1, 1) := by decide +kernel
theorem dX10_deals_99 : decode cX10_deals 99 = .ok (.invokevirtual 349, 3) := by decide +kernel
theorem dX10_deals_102 : decode cX10_deals 102 = .ok (.iload 4, 2) := by decide +kernel
theorem dX10_deals_104 : decode cX10_deals 104 = .ok (.istore 6, 2) := by decide +kernel
theorem dX10_deals_106 : decode cX10_deals 106 = .ok (.iload 6, 2) := by decide +kernel
theorem dX10_deals_108 : decode cX10_deals 108 = .ok (.iload 5, 2) := by decide +kernel
theorem dX10_deals_110 : decode cX10_deals 110 = .ok (.if_icmp .ge 25, 3) := by decide +kernel
theorem dX10_deals_113 : decode cX10_deals 113 = .ok (.aload_n 0, 1) := by decide +kernel
theorem dX10_deals_114 : decode cX10_deals 114 = .ok (.getfield 33, 3) := by decide +kernel
theorem dX10_deals_117 : decode cX10_deals 117 = .ok (.bipush 48, 2) := by decide +kernel
theorem dX10_deals_119 : decode cX10_deals 119 = .ok (.aload_n 0, 1) := by decide +kernel
theorem dX10_deals_120 : decode cX10_deals 120 = .ok (.getfield 303, 3) := by decide +kernel
theorem dX10_deals_123 : decode cX10_deals 123 = .ok (.imul, 1) := by decide +kernel
theorem dX10_deals_124 : decode cX10_deals 124 = .ok (.iload 6, 2) := by decide +kernel
theorem dX10_deals_126 : decode cX10_deals 126 = .ok (.iadd, 1) := by decide +kernel
theorem dX10_deals_127 : decode cX10_deals 127 = .ok (.iload_n 1, 1) := by decide +kernel
theorem dX10_deals_128 : decode cX10_deals 128 = .ok (.iastore, 1) := by decide +kernel
theorem dX10_deals_129 : decode cX10_deals 129 = .ok (.iinc 6 1, 3) := by decide +kernel
theorem dX10_deals_132 : decode cX10_deals 132 = .ok (.goto (-26), 3) := by decide +kernel
theorem dX10_deals_135 : decode cX10_deals 135 = .ok (.aload_n 0, 1) := by decide +kernel
theorem dX10_deals_136 : decode cX10_deals 136 = .ok (.invokevirtual 352, 3) := by decide +kernel
theorem dX10_deals_139 : decode cX10_deals 139 = .ok (.iload_n 3, 1) := by decide +kernel
theorem dX10_deals_140 : decode cX10_deals 140 = .ok (.isub, 1) := by decide +kernel
theorem dX10_deals_141 : decode cX10_deals 141 = .ok (.aload_n 0, 1) := by decide +kernel
theorem dX10_deals_142 : decode cX10_deals 142 = .ok (.getfield 374, 3) := by decide +kernel
theorem dX10_deals_145 : decode cX10_deals 145 = .ok (.if_icmp .gt 6, 3) := by decide +kernel
theorem dX10_deals_148 : decode cX10_deals 148 = .ok (.goto (-116), 3) := by decide +kernel
theorem dX10_deals_151 : decode cX10_deals 151 = .ok (.aload_n 0, 1) := by decide +kernel
theorem dX10_deals_152 : decode cX10_deals 152 = .ok (.aload_n 0, 1) := by decide +kernel
theorem dX10_deals_153 : decode cX10_deals 153 = .ok (.invokevirtual 352, 3) := by decide +kernel
theorem dX10_deals_156 : decode cX10_deals 156 = .ok (.iload_n 3, 1) := by decide +kernel
theorem dX10_deals_157 : decode cX10_deals 157 = .ok (.isub, 1) := by decide +kernel
theorem dX10_deals_158 : decode cX10_deals 158 = .ok (.putfield 374, 3) := by decide +kernel
theorem dX10_deals_161 : decode cX10_deals 161 = .ok (.aload_n 0, 1) := by decide +kernel
theorem dX10_deals_162 : decode cX10_deals 162 = .ok (.iload 4, 2) := by decide +kernel
theorem dX10_deals_164 : decode cX10_deals 164 = .ok (.putfield 371, 3) := by decide +kernel
theorem dX10_deals_167 : decode cX10_deals 167 = .ok (.aload_n 0, 1) := by decide +kernel
theorem dX10_deals_168 : decode cX10_deals 168 = .ok (.iload 5, 2) := by decide +kernel
theorem dX10_deals_170 : decode cX10_deals 170 = .ok (.putfield 377, 3) := by decide +kernel
theorem dX10_deals_173 : decode cX10_deals 173 = .ok (.goto (-141), 3) := by decide +kernel
theorem dX10_deals_176 : decode cX10_deals 176 = .ok (.iinc 4 1, 3) := by decide +kernel
theorem dX10_deals_179 : decode cX10_deals 179 = .ok (.goto (-161), 3) := by decide +kernel
theorem dX10_deals_182 : decode cX10_deals 182 = .ok (.return_, 1) := by decide +kernel
def zX10_deals (Qr : Option PV → Mem → Prop) : XZ := (RX10, 5, 121, 7, none, Qr)
noncomputable def fX10_deals_b106 (k18 : Nat → Int → Int → Int → Int → Mem → Option Mem) (k32 : Nat → Int → Int → Int → Int → Int → Mem → Option Mem) : Nat → Nat → Int → Int → Int → Int → Int → Int → Mem → Option Mem
  | 0, _, _, _, _, _, _, _, _ => none
  | n + 1, o, x1, x2, x3, x4, x5, x6, F =>
    if x5 ≤ x6 then
      (fX10_gain o F).bind fun r2 =>
      if (F o 43) < (xw (r2 - x3)) then
        (fX10_gain o F).bind fun r5 =>
        k32 o x1 x2 x3 x4 x5 (mset (mset (mset F o 43 (xw (r5 - x3))) o 41 x4) o 42 x5)
      else
        k32 o x1 x2 x3 x4 x5 F
    else
      if (0 : Int) ≤ (xw ((xw (48 * (F o 26))) + x6)) ∧ (xw ((xw (48 * (F o 26))) + x6)) < (alen (o + 6) : Int) then
        fX10_deals_b106 k18 k32 n o x1 x2 x3 x4 x5 (xw (x6 + 1)) (mset F (o + 6) (xw ((xw (48 * (F o 26))) + x6)).toNat x1)
      else none
noncomputable def fX10_deals_b68 (k18 : Nat → Int → Int → Int → Int → Mem → Option Mem) (k32 : Nat → Int → Int → Int → Int → Int → Mem → Option Mem) : Nat → Nat → Int → Int → Int → Int → Int → Int → Mem → Option Mem
  | 0, _, _, _, _, _, _, _, _ => none
  | n + 1, o, x1, x2, x3, x4, x5, x6, F =>
    if x5 ≤ x6 then
      (fX10_solves o 1 F).bind fun q2 =>
      fX10_deals_b106 k18 k32 FU o x1 x2 x3 x4 x5 x4 q2
    else
      if (0 : Int) ≤ (xw ((xw (48 * (F o 26))) + x6)) ∧ (xw ((xw (48 * (F o 26))) + x6)) < (alen (o + 6) : Int) then
        fX10_deals_b68 k18 k32 n o x1 x2 x3 x4 x5 (xw (x6 + 1)) (mset F (o + 6) (xw ((xw (48 * (F o 26))) + x6)).toNat x2)
      else none
noncomputable def fX10_deals_b32 (k18 : Nat → Int → Int → Int → Int → Mem → Option Mem) : Nat → Nat → Int → Int → Int → Int → Int → Mem → Option Mem
  | 0, _, _, _, _, _, _, _ => none
  | n + 1, o, x1, x2, x3, x4, x5, F =>
    (fX10_of o 0 F).bind fun r1 =>
    if r1 ≤ x5 then
      k18 o x1 x2 x3 (xw (x4 + 1)) F
    else
      if (0 : Int) ≤ (xw ((xw (48 * (F o 26))) + x5)) ∧ (xw ((xw (48 * (F o 26))) + x5)) < (alen (o + 6) : Int) then
        if (F (o + 6) (xw ((xw (48 * (F o 26))) + x5)).toNat) ≠ x1 then
          k18 o x1 x2 x3 (xw (x4 + 1)) F
        else
          fX10_deals_b68 k18 (fX10_deals_b32 k18 n) FU o x1 x2 x3 x4 (xw (x5 + 1)) x4 F
      else none
noncomputable def fX10_deals_b18 : Nat → Nat → Int → Int → Int → Int → Mem → Option Mem
  | 0, _, _, _, _, _, _ => none
  | n + 1, o, x1, x2, x3, x4, F =>
    (fX10_of o 0 F).bind fun r1 =>
    if r1 ≤ x4 then
      some F
    else
      fX10_deals_b32 (fX10_deals_b18 n) FU o x1 x2 x3 x4 x4 F
noncomputable def fX10_deals (o : Nat) (x1 : Int) (x2 : Int) (F : Mem) : Option Mem :=
  (fX10_gain o F).bind fun r1 =>
  fX10_deals_b18 FU o x1 x2 r1 0 (mset (mset F o 41 (-1)) o 43 0)
theorem fX10_deals_b106_ok {Qr : Option PV → Mem → Prop}  (k18 : Nat → Int → Int → Int → Int → Mem → Option Mem) (k32 : Nat → Int → Int → Int → Int → Int → Mem → Option Mem) (hk18 : ∀ (o : Nat) (x1 : Int) (x2 : Int) (x3 : Int) (x4 : Int) (F : Mem) (res : Mem) (ho : isK o 10), k18 o x1 x2 x3 x4 F = some res → Qr none res → PR cX10_deals (zX10_deals Qr) 18 [(0, vR o), (1, vI x1), (2, vI x2), (3, vI x3), (4, vI x4)] [] F) (hk32 : ∀ (o : Nat) (x1 : Int) (x2 : Int) (x3 : Int) (x4 : Int) (x5 : Int) (F : Mem) (res : Mem) (ho : isK o 10), k32 o x1 x2 x3 x4 x5 F = some res → Qr none res → PR cX10_deals (zX10_deals Qr) 32 [(0, vR o), (1, vI x1), (2, vI x2), (3, vI x3), (4, vI x4), (5, vI x5)] [] F) : ∀ (n : Nat) (o : Nat) (x1 : Int) (x2 : Int) (x3 : Int) (x4 : Int) (x5 : Int) (x6 : Int) (F : Mem) (res : Mem) (ho : isK o 10), fX10_deals_b106 k18 k32 n o x1 x2 x3 x4 x5 x6 F = some res → Qr none res → PR cX10_deals (zX10_deals Qr) 106 [(0, vR o), (1, vI x1), (2, vI x2), (3, vI x3), (4, vI x4), (5, vI x5), (6, vI x6)] [] F := by
  intro n
  induction n with
  | zero => intro o x1 x2 x3 x4 x5 x6 F res ho h hq; exact nomatch (show (none : Option _) = some _ from h)
  | succ n ih =>
    intro o x1 x2 x3 x4 x5 x6 F res ho h hq
    refine s_iload (j := 6) dX10_deals_106 rfl ?_
    refine s_iload (j := 5) dX10_deals_108 rfl ?_
    refine s_icmp_ge (tgt := 135) dX10_deals_110 rfl (fun hc1 => ?_) (fun hc1 => ?_)
    · have h := ifp hc1 h
      refine s_aload_n (j := 0) dX10_deals_135 rfl rfl ?_
      obtain ⟨r2, hv3, h⟩ := bnd h
      refine s_callV (As := []) (rest := []) (r := (some (vI r2))) (F' := F) dX10_deals_136 (clX10_352 (Nat.le_of_ble_eq_true rfl) (Nat.le_of_ble_eq_true rfl)) ho rfl ⟨_, _, rfl, ho, hv3, rfl, rfl⟩ rfl (Nat.le_of_ble_eq_true rfl) ?_
      refine s_iload_n (j := 3) dX10_deals_139 rfl rfl ?_
      refine s_isub dX10_deals_140 ?_
      refine s_aload_n (j := 0) dX10_deals_141 rfl rfl ?_
      refine s_getI dX10_deals_142 flX10_374 ho ?_
      refine s_icmp_gt (tgt := 151) dX10_deals_145 rfl (fun hc4 => ?_) (fun hc4 => ?_)
      · have h := ifp hc4 h
        refine s_aload_n (j := 0) dX10_deals_151 rfl rfl ?_
        refine s_aload_n (j := 0) dX10_deals_152 rfl rfl ?_
        obtain ⟨r5, hv6, h⟩ := bnd h
        refine s_callV (As := []) (rest := [vR o]) (r := (some (vI r5))) (F' := F) dX10_deals_153 (clX10_352 (Nat.le_of_ble_eq_true rfl) (Nat.le_of_ble_eq_true rfl)) ho rfl ⟨_, _, rfl, ho, hv6, rfl, rfl⟩ rfl (Nat.le_of_ble_eq_true rfl) ?_
        refine s_iload_n (j := 3) dX10_deals_156 rfl rfl ?_
        refine s_isub dX10_deals_157 ?_
        refine s_putI dX10_deals_158 flX10_374 fpX10_43 ho ?_
        refine s_aload_n (j := 0) dX10_deals_161 rfl rfl ?_
        refine s_iload (j := 4) dX10_deals_162 rfl ?_
        refine s_putI dX10_deals_164 flX10_371 fpX10_41 ho ?_
        refine s_aload_n (j := 0) dX10_deals_167 rfl rfl ?_
        refine s_iload (j := 5) dX10_deals_168 rfl ?_
        refine s_putI dX10_deals_170 flX10_377 fpX10_42 ho ?_
        refine s_goto (tgt := 32) dX10_deals_173 rfl ?_
        exact s_sub (ks := [0, 1, 2, 3, 4, 5]) rfl (hk32 o x1 x2 x3 x4 x5 (mset (mset (mset F o 43 (xw (r5 - x3))) o 41 x4) o 42 x5) _ ho h hq)
      · have h := ifn hc4 h
        refine s_goto (tgt := 32) dX10_deals_148 rfl ?_
        exact s_sub (ks := [0, 1, 2, 3, 4, 5]) rfl (hk32 o x1 x2 x3 x4 x5 F _ ho h hq)
    · have h := ifn hc1 h
      refine s_aload_n (j := 0) dX10_deals_113 rfl rfl ?_
      refine s_getR dX10_deals_114 flX10_33 ho ?_
      refine s_bipush dX10_deals_117 rfl (cin rfl) ?_
      refine s_aload_n (j := 0) dX10_deals_119 rfl rfl ?_
      refine s_getI dX10_deals_120 flX10_303 ho ?_
      refine s_imul dX10_deals_123 ?_
      refine s_iload (j := 6) dX10_deals_124 rfl ?_
      refine s_iadd dX10_deals_126 ?_
      refine s_iload_n (j := 1) dX10_deals_127 rfl rfl ?_
      obtain ⟨hb7, h⟩ := gd h
      refine s_iastore dX10_deals_128 (trX10_18 ho) hb7.1 hb7.2 ?_
      refine s_iinc (ls' := [(6, vI (xw (x6 + 1))), (0, vR o), (1, vI x1), (2, vI x2), (3, vI x3), (4, vI x4), (5, vI x5)]) (j := 6) dX10_deals_129 rfl (Nat.le_of_ble_eq_true rfl) rfl ?_
      refine s_goto (tgt := 106) dX10_deals_132 rfl ?_
      exact s_sub (ks := [1, 2, 3, 4, 5, 6, 0]) rfl (ih o x1 x2 x3 x4 x5 (xw (x6 + 1)) (mset F (o + 6) (xw ((xw (48 * (F o 26))) + x6)).toNat x1) _ ho h hq)
theorem fX10_deals_b68_ok {Qr : Option PV → Mem → Prop}  (k18 : Nat → Int → Int → Int → Int → Mem → Option Mem) (k32 : Nat → Int → Int → Int → Int → Int → Mem → Option Mem) (hk18 : ∀ (o : Nat) (x1 : Int) (x2 : Int) (x3 : Int) (x4 : Int) (F : Mem) (res : Mem) (ho : isK o 10), k18 o x1 x2 x3 x4 F = some res → Qr none res → PR cX10_deals (zX10_deals Qr) 18 [(0, vR o), (1, vI x1), (2, vI x2), (3, vI x3), (4, vI x4)] [] F) (hk32 : ∀ (o : Nat) (x1 : Int) (x2 : Int) (x3 : Int) (x4 : Int) (x5 : Int) (F : Mem) (res : Mem) (ho : isK o 10), k32 o x1 x2 x3 x4 x5 F = some res → Qr none res → PR cX10_deals (zX10_deals Qr) 32 [(0, vR o), (1, vI x1), (2, vI x2), (3, vI x3), (4, vI x4), (5, vI x5)] [] F) : ∀ (n : Nat) (o : Nat) (x1 : Int) (x2 : Int) (x3 : Int) (x4 : Int) (x5 : Int) (x6 : Int) (F : Mem) (res : Mem) (ho : isK o 10), fX10_deals_b68 k18 k32 n o x1 x2 x3 x4 x5 x6 F = some res → Qr none res → PR cX10_deals (zX10_deals Qr) 68 [(0, vR o), (1, vI x1), (2, vI x2), (3, vI x3), (4, vI x4), (5, vI x5), (6, vI x6)] [] F := by
  intro n
  induction n with
  | zero => intro o x1 x2 x3 x4 x5 x6 F res ho h hq; exact nomatch (show (none : Option _) = some _ from h)
  | succ n ih =>
    intro o x1 x2 x3 x4 x5 x6 F res ho h hq
    refine s_iload (j := 6) dX10_deals_68 rfl ?_
    refine s_iload (j := 5) dX10_deals_70 rfl ?_
    refine s_icmp_ge (tgt := 97) dX10_deals_72 rfl (fun hc1 => ?_) (fun hc1 => ?_)
    · have h := ifp hc1 h
      refine s_aload_n (j := 0) dX10_deals_97 rfl rfl ?_
      refine s_iconst dX10_deals_98 (cin rfl) ?_
      obtain ⟨q2, hv3, h⟩ := bnd h
      refine s_callV (As := [vI 1]) (rest := []) (r := none) (F' := q2) dX10_deals_99 (clX10_349 (Nat.le_of_ble_eq_true rfl) (Nat.le_of_ble_eq_true rfl)) ho rfl ⟨_, _, _, rfl, ho, hv3, rfl, rfl⟩ rfl (Nat.le_of_ble_eq_true rfl) ?_
      refine s_iload (j := 4) dX10_deals_102 rfl ?_
      refine s_istore (ls' := [(6, vI x4), (0, vR o), (1, vI x1), (2, vI x2), (3, vI x3), (4, vI x4), (5, vI x5)]) dX10_deals_104 (Nat.le_of_ble_eq_true rfl) rfl ?_
      exact s_sub (ks := [1, 2, 3, 4, 5, 6, 0]) rfl (fX10_deals_b106_ok k18 k32 hk18 hk32 FU o x1 x2 x3 x4 x5 x4 q2 _ ho h hq)
    · have h := ifn hc1 h
      refine s_aload_n (j := 0) dX10_deals_75 rfl rfl ?_
      refine s_getR dX10_deals_76 flX10_33 ho ?_
      refine s_bipush dX10_deals_79 rfl (cin rfl) ?_
      refine s_aload_n (j := 0) dX10_deals_81 rfl rfl ?_
      refine s_getI dX10_deals_82 flX10_303 ho ?_
      refine s_imul dX10_deals_85 ?_
      refine s_iload (j := 6) dX10_deals_86 rfl ?_
      refine s_iadd dX10_deals_88 ?_
      refine s_iload_n (j := 2) dX10_deals_89 rfl rfl ?_
      obtain ⟨hb4, h⟩ := gd h
      refine s_iastore dX10_deals_90 (trX10_18 ho) hb4.1 hb4.2 ?_
      refine s_iinc (ls' := [(6, vI (xw (x6 + 1))), (0, vR o), (1, vI x1), (2, vI x2), (3, vI x3), (4, vI x4), (5, vI x5)]) (j := 6) dX10_deals_91 rfl (Nat.le_of_ble_eq_true rfl) rfl ?_
      refine s_goto (tgt := 68) dX10_deals_94 rfl ?_
      exact s_sub (ks := [1, 2, 3, 4, 5, 6, 0]) rfl (ih o x1 x2 x3 x4 x5 (xw (x6 + 1)) (mset F (o + 6) (xw ((xw (48 * (F o 26))) + x6)).toNat x2) _ ho h hq)
theorem fX10_deals_b32_ok {Qr : Option PV → Mem → Prop}  (k18 : Nat → Int → Int → Int → Int → Mem → Option Mem) (hk18 : ∀ (o : Nat) (x1 : Int) (x2 : Int) (x3 : Int) (x4 : Int) (F : Mem) (res : Mem) (ho : isK o 10), k18 o x1 x2 x3 x4 F = some res → Qr none res → PR cX10_deals (zX10_deals Qr) 18 [(0, vR o), (1, vI x1), (2, vI x2), (3, vI x3), (4, vI x4)] [] F) : ∀ (n : Nat) (o : Nat) (x1 : Int) (x2 : Int) (x3 : Int) (x4 : Int) (x5 : Int) (F : Mem) (res : Mem) (ho : isK o 10), fX10_deals_b32 k18 n o x1 x2 x3 x4 x5 F = some res → Qr none res → PR cX10_deals (zX10_deals Qr) 32 [(0, vR o), (1, vI x1), (2, vI x2), (3, vI x3), (4, vI x4), (5, vI x5)] [] F := by
  intro n
  induction n with
  | zero => intro o x1 x2 x3 x4 x5 F res ho h hq; exact nomatch (show (none : Option _) = some _ from h)
  | succ n ih =>
    intro o x1 x2 x3 x4 x5 F res ho h hq
    refine s_iload (j := 5) dX10_deals_32 rfl ?_
    refine s_aload_n (j := 0) dX10_deals_34 rfl rfl ?_
    refine s_iconst dX10_deals_35 (cin rfl) ?_
    obtain ⟨r1, hv2, h⟩ := bnd h
    refine s_callV (As := [vI 0]) (rest := [vI x5]) (r := (some (vI r1))) (F' := F) dX10_deals_36 (clX10_181 (Nat.le_of_ble_eq_true rfl) (Nat.le_of_ble_eq_true rfl)) ho rfl ⟨_, _, _, rfl, ho, hv2, rfl, rfl⟩ rfl (Nat.le_of_ble_eq_true rfl) ?_
    refine s_icmp_ge (tgt := 176) dX10_deals_39 rfl (fun hc3 => ?_) (fun hc3 => ?_)
    · have h := ifp hc3 h
      refine s_iinc (ls' := [(4, vI (xw (x4 + 1))), (0, vR o), (1, vI x1), (2, vI x2), (3, vI x3), (5, vI x5)]) (j := 4) dX10_deals_176 rfl (Nat.le_of_ble_eq_true rfl) rfl ?_
      refine s_goto (tgt := 18) dX10_deals_179 rfl ?_
      exact s_sub (ks := [1, 2, 3, 4, 0]) rfl (hk18 o x1 x2 x3 (xw (x4 + 1)) F _ ho h hq)
    · have h := ifn hc3 h
      refine s_aload_n (j := 0) dX10_deals_42 rfl rfl ?_
      refine s_getR dX10_deals_43 flX10_33 ho ?_
      refine s_bipush dX10_deals_46 rfl (cin rfl) ?_
      refine s_aload_n (j := 0) dX10_deals_48 rfl rfl ?_
      refine s_getI dX10_deals_49 flX10_303 ho ?_
      refine s_imul dX10_deals_52 ?_
      refine s_iload (j := 5) dX10_deals_53 rfl ?_
      refine s_iadd dX10_deals_55 ?_
      obtain ⟨hb4, h⟩ := gd h
      refine s_iaload dX10_deals_56 (trX10_18 ho) hb4.1 hb4.2 ?_
      refine s_iload_n (j := 1) dX10_deals_57 rfl rfl ?_
      refine s_icmp_ne (tgt := 176) dX10_deals_58 rfl (fun hc5 => ?_) (fun hc5 => ?_)
      · have h := ifp hc5 h
        refine s_iinc (ls' := [(4, vI (xw (x4 + 1))), (0, vR o), (1, vI x1), (2, vI x2), (3, vI x3), (5, vI x5)]) (j := 4) dX10_deals_176 rfl (Nat.le_of_ble_eq_true rfl) rfl ?_
        refine s_goto (tgt := 18) dX10_deals_179 rfl ?_
        exact s_sub (ks := [1, 2, 3, 4, 0]) rfl (hk18 o x1 x2 x3 (xw (x4 + 1)) F _ ho h hq)
      · have h := ifn hc5 h
        refine s_iinc (ls' := [(5, vI (xw (x5 + 1))), (0, vR o), (1, vI x1), (2, vI x2), (3, vI x3), (4, vI x4)]) (j := 5) dX10_deals_61 rfl (Nat.le_of_ble_eq_true rfl) rfl ?_
        refine s_iload (j := 5) dX10_deals_64 rfl ?_
        refine s_istore dX10_deals_66 (Nat.le_of_ble_eq_true rfl) rfl ?_
        exact s_sub (ks := [2, 3, 4, 5, 6, 1, 0]) rfl (fX10_deals_b68_ok k18 (fX10_deals_b32 k18 n) hk18 ih FU o x1 x2 x3 x4 (xw (x5 + 1)) x4 F _ ho h hq)
theorem fX10_deals_b18_ok {Qr : Option PV → Mem → Prop}  : ∀ (n : Nat) (o : Nat) (x1 : Int) (x2 : Int) (x3 : Int) (x4 : Int) (F : Mem) (res : Mem) (ho : isK o 10), fX10_deals_b18 n o x1 x2 x3 x4 F = some res → Qr none res → PR cX10_deals (zX10_deals Qr) 18 [(0, vR o), (1, vI x1), (2, vI x2), (3, vI x3), (4, vI x4)] [] F := by
  intro n
  induction n with
  | zero => intro o x1 x2 x3 x4 F res ho h hq; exact nomatch (show (none : Option _) = some _ from h)
  | succ n ih =>
    intro o x1 x2 x3 x4 F res ho h hq
    refine s_iload (j := 4) dX10_deals_18 rfl ?_
    refine s_aload_n (j := 0) dX10_deals_20 rfl rfl ?_
    refine s_iconst dX10_deals_21 (cin rfl) ?_
    obtain ⟨r1, hv2, h⟩ := bnd h
    refine s_callV (As := [vI 0]) (rest := [vI x4]) (r := (some (vI r1))) (F' := F) dX10_deals_22 (clX10_181 (Nat.le_of_ble_eq_true rfl) (Nat.le_of_ble_eq_true rfl)) ho rfl ⟨_, _, _, rfl, ho, hv2, rfl, rfl⟩ rfl (Nat.le_of_ble_eq_true rfl) ?_
    refine s_icmp_ge (tgt := 182) dX10_deals_25 rfl (fun hc3 => ?_) (fun hc3 => ?_)
    · have h := ifp hc3 h
      have h := Option.some.inj h
      subst h
      exact s_return dX10_deals_182 rfl hq
    · have h := ifn hc3 h
      refine s_iload (j := 4) dX10_deals_28 rfl ?_
      refine s_istore (ls' := [(5, vI x4), (0, vR o), (1, vI x1), (2, vI x2), (3, vI x3), (4, vI x4)]) dX10_deals_30 (Nat.le_of_ble_eq_true rfl) rfl ?_
      exact s_sub (ks := [1, 2, 3, 4, 5, 0]) rfl (fX10_deals_b32_ok (fX10_deals_b18 n) ih FU o x1 x2 x3 x4 x4 F _ ho h hq)
theorem fX10_deals_ok {Qr : Option PV → Mem → Prop} : ∀ (o : Nat) (x1 : Int) (x2 : Int) (F : Mem) (res : Mem) (ho : isK o 10), fX10_deals o x1 x2 F = some res → Qr none res → PR cX10_deals (zX10_deals Qr) 0 [(0, vR o), (1, vI x1), (2, vI x2)] [] F := by
  intro o x1 x2 F res ho h hq
  refine s_aload_n (j := 0) dX10_deals_0 rfl rfl ?_
  obtain ⟨r1, hv2, h⟩ := bnd h
  refine s_callV (As := []) (rest := []) (r := (some (vI r1))) (F' := F) dX10_deals_1 (clX10_352 (Nat.le_of_ble_eq_true rfl) (Nat.le_of_ble_eq_true rfl)) ho rfl ⟨_, _, rfl, ho, hv2, rfl, rfl⟩ rfl (Nat.le_of_ble_eq_true rfl) ?_
  refine s_istore_n (ls' := [(3, vI r1), (0, vR o), (1, vI x1), (2, vI x2)]) dX10_deals_4 rfl (Nat.le_of_ble_eq_true rfl) rfl ?_
  refine s_aload_n (j := 1) dX10_deals_5 rfl rfl ?_
  refine s_iconst dX10_deals_6 (cin rfl) ?_
  refine s_putI dX10_deals_7 flX10_371 fpX10_41 ho ?_
  refine s_aload_n (j := 1) dX10_deals_10 rfl rfl ?_
  refine s_iconst dX10_deals_11 (cin rfl) ?_
  refine s_putI dX10_deals_12 flX10_374 fpX10_43 ho ?_
  refine s_iconst dX10_deals_15 (cin rfl) ?_
  refine s_istore dX10_deals_16 (Nat.le_of_ble_eq_true rfl) rfl ?_
  exact s_sub (ks := [2, 3, 4, 1, 0]) rfl (fX10_deals_b18_ok FU o x1 x2 r1 0 (mset (mset F o 41 (-1)) o 43 0) _ ho h hq)
def gX10_deals : XG := fun As F r F' => ∃ o : Nat, ∃ x1 : Int, ∃ x2 : Int, ∃ res : Mem, As = [vR o, vI x1, vI x2] ∧ isK o 10 ∧ fX10_deals o x1 x2 F = some res ∧ r = none ∧ F' = res
theorem ctX10_deals : xCT yX10_deals cX10_deals 7 (none) 5 121 gX10_deals := xmet (by decide +kernel) (fun As F r F' hg => by obtain ⟨o, x1, x2, res, rfl, ho, h, rfl, rfl⟩ := hg; exact Nat.le_of_ble_eq_true rfl) (fun As F r F' hg => by obtain ⟨o, x1, x2, res, rfl, ho, h, rfl, rfl⟩ := hg; exact fX10_deals_ok o x1 x2 _ _ ho h ⟨rfl, rfl⟩)
theorem mcX10_deals : Cond.code yX10_deals cX10_deals 7 (none) ∈ xw_T ∧ Cond.initialized yX10_deals.cls ∈ xw_T ∧ Cond.instanceMethod yX10_deals ∈ xw_T ∧ Cond.selects yX10_deals.cls yX10_deals yX10_deals ∈ xw_T := ⟨(xinT 1837 (by decide +kernel) (by decide +kernel)), (xinT 127 (by decide +kernel) (by decide +kernel)), (xinT 1836 (by decide +kernel) (by decide +kernel)), (xinT 100 (by decide +kernel) (by decide +kernel))⟩
theorem clX10_380 {fr lo : Nat} (h1 : 5 + 1 ≤ fr) (h2 : 8 + (7 + 11) + 121 ≤ lo) : xCall RX10 fr lo 0 380 10 2 gX10_deals := ⟨_, _, _, _, _, _, ctX10_deals, h1, h2, mcX10_deals.1, (xinT 1834 (by decide +kernel) (by decide +kernel)), mcX10_deals.2.1, ⟨by decide +kernel, by decide +kernel, by decide +kernel⟩, by rw [if_pos rfl]; exact ⟨mcX10_deals.2.2.1, mcX10_deals.2.2.2, _, _, rfl⟩⟩
theorem dX10_deal_0 : decode cX10_deal 0 = .ok (.iload 5, 2) := by decide +kernel
theorem dX10_deal_2 : decode cX10_deal 2 = .ok (.iload 6, 2) := by decide +kernel
theorem dX10_deal_4 : decode cX10_deal 4 = .ok (.if_icmp .eq 44, 3) := by decide +kernel
theorem dX10_deal_7 : decode cX10_deal 7 = .ok (.iload 7, 2) := by decide +kernel
theorem dX10_deal_9 : decode cX10_deal 9 = .ok (.iconst 0, 1) := by decide +kernel
theorem dX10_deal_10 : decode cX10_deal 10 = .ok (.iconst 2, 1) := by decide +kernel
theorem dX10_deal_11 : decode cX10_deal 11 = .ok (.invokestatic 115, 3) := by decide +kernel
theorem dX10_deal_14 : decode cX10_deal 14 = .ok (.ifCond .eq 34, 3) := by decide +kernel
theorem dX10_deal_17 : decode cX10_deal 17 = .ok (.aload_n 0, 1) := by decide +kernel
theorem dX10_deal_18 : decode cX10_deal 18 = .ok (.iload_n 1, 1) := by decide +kernel
theorem dX10_deal_19 : decode cX10_deal 19 = .ok (.iload_n 2, 1) := by decide +kernel
theorem dX10_deal_20 : decode cX10_deal 20 = .ok (.iload_n 3, 1) := by decide +kernel
theorem dX10_deal_21 : decode cX10_deal 21 = .ok (.iload 4, 2) := by decide +kernel
theorem dX10_deal_23 : decode cX10_deal 23 = .ok (.iconst 1, 1) := by decide +kernel
theorem dX10_deal_24 : decode cX10_deal 24 = .ok (.invokevirtual 355, 3) := by decide +kernel
theorem dX10_deal_27 : decode cX10_deal 27 = .ok (.ifCond .eq 21, 3) := by decide +kernel
theorem dX10_deal_30 : decode cX10_deal 30 = .ok (.aload_n 0, 1) := by decide +kernel
theorem dX10_deal_31 : decode cX10_deal 31 = .ok (.iload 5, 2) := by decide +kernel
theorem dX10_deal_33 : decode cX10_deal 33 = .ok (.invokevirtual 189, 3) := by decide +kernel
theorem dX10_deal_36 : decode cX10_deal 36 = .ok (.ifCond .eq 12, 3) := by decide +kernel
theorem dX10_deal_39 : decode cX10_deal 39 = .ok (.aload_n 0, 1) := by decide +kernel
theorem dX10_deal_40 : decode cX10_deal 40 = .ok (.iload 6, 2) := by decide +kernel
theorem dX10_deal_42 : decode cX10_deal 42 = .ok (.invokevirtual 189, 3) := by decide +kernel
theorem dX10_deal_45 : decode cX10_deal 45 = .ok (.ifCond .ne 5, 3) := by decide +kernel
theorem dX10_deal_48 : decode cX10_deal 48 = .ok (.iconst (-1), 1) := by decide +kernel
theorem dX10_deal_49 : decode cX10_deal 49 = .ok (.ireturn, 1) := by decide +kernel
theorem dX10_deal_50 : decode cX10_deal 50 = .ok (.aload_n 0, 1) := by decide +kernel
theorem dX10_deal_51 : decode cX10_deal 51 = .ok (.iload 5, 2) := by decide +kernel
theorem dX10_deal_53 : decode cX10_deal 53 = .ok (.iload 6, 2) := by decide +kernel
theorem dX10_deal_55 : decode cX10_deal 55 = .ok (.invokevirtual 380, 3) := by decide +kernel
theorem dX10_deal_58 : decode cX10_deal 58 = .ok (.aload_n 0, 1) := by decide +kernel
theorem dX10_deal_59 : decode cX10_deal 59 = .ok (.getfield 371, 3) := by decide +kernel
theorem dX10_deal_62 : decode cX10_deal 62 = .ok (.iconst (-1), 1) := by decide +kernel
theorem dX10_deal_63 : decode cX10_deal 63 = .ok (.if_icmp .ne 5, 3) := by decide +kernel
theorem dX10_deal_66 : decode cX10_deal 66 = .ok (.iconst (-1), 1) := by decide +kernel
theorem dX10_deal_67 : decode cX10_deal 67 = .ok (.ireturn, 1) := by decide +kernel
theorem dX10_deal_68 : decode cX10_deal 68 = .ok (.iload 7, 2) := by decide +kernel
theorem dX10_deal_70 : decode cX10_deal 70 = .ok (.ifCond .ne 10, 3) := by decide +kernel
theorem dX10_deal_73 : decode cX10_deal 73 = .ok (.aload_n 0, 1) := by decide +kernel
theorem dX10_deal_74 : decode cX10_deal 74 = .ok (.getfield 371, 3) := by decide +kernel
theorem dX10_deal_77 : decode cX10_deal 77 = .ok (.goto 20, 3) := by decide +kernel
theorem dX10_deal_80 : decode cX10_deal 80 = .ok (.iload 7, 2) := by decide +kernel
theorem dX10_deal_82 : decode cX10_deal 82 = .ok (.iconst 1, 1) := by decide +kernel
theorem dX10_deal_83 : decode cX10_deal 83 = .ok (.if_icmp .ne 10, 3) := by decide +kernel
theorem dX10_deal_86 : decode cX10_deal 86 = .ok (.aload_n 0, 1) := by decide +kernel
theorem dX10_deal_87 : decode cX10_deal 87 = .ok (.getfield 377, 3) := by decide +kernel
theorem dX10_deal_90 : decode cX10_deal 90 = .ok (.goto 7, 3) := by decide +kernel
theorem dX10_deal_93 : decode cX10_deal 93 = .ok (.aload_n 0, 1) := by decide +kernel
theorem dX10_deal_94 : decode cX10_deal 94 = .ok (.getfield 374, 3) := by decide +kernel
theorem dX10_deal_97 : decode cX10_deal 97 = .ok (.ireturn, 1) := by decide +kernel
def zX10_deal (Qr : Option PV → Mem → Prop) : XZ := (RX10, 7, 159, 8, some FieldType.int, Qr)
noncomputable def fX10_deal (o : Nat) (x1 : Int) (x2 : Int) (x3 : Int) (x4 : Int) (x5 : Int) (x6 : Int) (x7 : Int) (F : Mem) : Option (Int × Mem) :=
  if x5 = x6 then
    some ((-1), F)
  else
    if (fX10_isIn x7 0 2) = 0 then
      some ((-1), F)
    else
      (fX10_isAsked o x1 x2 x3 x4 1 F).bind fun q3 =>
      if q3.1 = 0 then
        some ((-1), q3.2)
      else
        (fX10_isHouse o x5 q3.2).bind fun r6 =>
        if r6 = 0 then
          some ((-1), q3.2)
        else
          (fX10_isHouse o x6 q3.2).bind fun r9 =>
          if r9 ≠ 0 then
            (fX10_deals o x5 x6 q3.2).bind fun q12 =>
            if (q12 o 41) ≠ (-1) then
              if x7 ≠ 0 then
                if x7 ≠ 1 then
                  some (q12 o 43, q12)
                else
                  some (q12 o 42, q12)
              else
                some (q12 o 41, q12)
            else
              some ((-1), q12)
          else
            some ((-1), q3.2)
theorem fX10_deal_ok {Qr : Option PV → Mem → Prop} : ∀ (o : Nat) (x1 : Int) (x2 : Int) (x3 : Int) (x4 : Int) (x5 : Int) (x6 : Int) (x7 : Int) (F : Mem) (res : (Int × Mem)) (ho : isK o 10), fX10_deal o x1 x2 x3 x4 x5 x6 x7 F = some res → Qr (some (vI res.1)) res.2 → PR cX10_deal (zX10_deal Qr) 0 [(0, vR o), (1, vI x1), (2, vI x2), (3, vI x3), (4, vI x4), (5, vI x5), (6, vI x6), (7, vI x7)] [] F := by
  intro o x1 x2 x3 x4 x5 x6 x7 F res ho h hq
  refine s_iload (j := 5) dX10_deal_0 rfl ?_
  refine s_iload (j := 6) dX10_deal_2 rfl ?_
  refine s_icmp_eq (tgt := 48) dX10_deal_4 rfl (fun hc1 => ?_) (fun hc1 => ?_)
  · have h := ifp hc1 h
    refine s_iconst dX10_deal_48 (cin rfl) ?_
    have h := Option.some.inj h
    subst h
    exact s_ireturn dX10_deal_49 rfl hq
  · have h := ifn hc1 h
    refine s_iload (j := 7) dX10_deal_7 rfl ?_
    refine s_iconst dX10_deal_9 (cin rfl) ?_
    refine s_iconst dX10_deal_10 (cin rfl) ?_
    refine s_callS (As := [vI x7, vI 0, vI 2]) (rest := []) (r := (some (vI (fX10_isIn x7 0 2)))) (F' := F) dX10_deal_11 (clX10_115 (Nat.le_of_ble_eq_true rfl) (Nat.le_of_ble_eq_true rfl)) rfl ⟨_, _, _, _, rfl, rfl, rfl, rfl⟩ rfl (Nat.le_of_ble_eq_true rfl) ?_
    refine s_if_eq (tgt := 48) dX10_deal_14 rfl (fun hc2 => ?_) (fun hc2 => ?_)
    · have h := ifp hc2 h
      refine s_iconst dX10_deal_48 (cin rfl) ?_
      have h := Option.some.inj h
      subst h
      exact s_ireturn dX10_deal_49 rfl hq
    · have h := ifn hc2 h
      refine s_aload_n (j := 0) dX10_deal_17 rfl rfl ?_
      refine s_iload_n (j := 1) dX10_deal_18 rfl rfl ?_
      refine s_iload_n (j := 2) dX10_deal_19 rfl rfl ?_
      refine s_iload_n (j := 3) dX10_deal_20 rfl rfl ?_
      refine s_iload (j := 4) dX10_deal_21 rfl ?_
      refine s_iconst dX10_deal_23 (cin rfl) ?_
      obtain ⟨q3, hv4, h⟩ := bnd h
      refine s_callV (As := [vI x1, vI x2, vI x3, vI x4, vI 1]) (rest := []) (r := (some (vI q3.1))) (F' := q3.2) dX10_deal_24 (clX10_355 (Nat.le_of_ble_eq_true rfl) (Nat.le_of_ble_eq_true rfl)) ho rfl ⟨_, _, _, _, _, _, _, rfl, ho, hv4, rfl, rfl⟩ rfl (Nat.le_of_ble_eq_true rfl) ?_
      refine s_if_eq (tgt := 48) dX10_deal_27 rfl (fun hc5 => ?_) (fun hc5 => ?_)
      · have h := ifp hc5 h
        refine s_iconst dX10_deal_48 (cin rfl) ?_
        have h := Option.some.inj h
        subst h
        exact s_ireturn dX10_deal_49 rfl hq
      · have h := ifn hc5 h
        refine s_aload_n (j := 0) dX10_deal_30 rfl rfl ?_
        refine s_iload (j := 5) dX10_deal_31 rfl ?_
        obtain ⟨r6, hv7, h⟩ := bnd h
        refine s_callV (As := [vI x5]) (rest := []) (r := (some (vI r6))) (F' := q3.2) dX10_deal_33 (clX10_189 (Nat.le_of_ble_eq_true rfl) (Nat.le_of_ble_eq_true rfl)) ho rfl ⟨_, _, _, rfl, ho, hv7, rfl, rfl⟩ rfl (Nat.le_of_ble_eq_true rfl) ?_
        refine s_if_eq (tgt := 48) dX10_deal_36 rfl (fun hc8 => ?_) (fun hc8 => ?_)
        · have h := ifp hc8 h
          refine s_iconst dX10_deal_48 (cin rfl) ?_
          have h := Option.some.inj h
          subst h
          exact s_ireturn dX10_deal_49 rfl hq
        · have h := ifn hc8 h
          refine s_aload_n (j := 0) dX10_deal_39 rfl rfl ?_
          refine s_iload (j := 6) dX10_deal_40 rfl ?_
          obtain ⟨r9, hv10, h⟩ := bnd h
          refine s_callV (As := [vI x6]) (rest := []) (r := (some (vI r9))) (F' := q3.2) dX10_deal_42 (clX10_189 (Nat.le_of_ble_eq_true rfl) (Nat.le_of_ble_eq_true rfl)) ho rfl ⟨_, _, _, rfl, ho, hv10, rfl, rfl⟩ rfl (Nat.le_of_ble_eq_true rfl) ?_
          refine s_if_ne (tgt := 50) dX10_deal_45 rfl (fun hc11 => ?_) (fun hc11 => ?_)
          · have h := ifp hc11 h
            refine s_aload_n (j := 0) dX10_deal_50 rfl rfl ?_
            refine s_iload (j := 5) dX10_deal_51 rfl ?_
            refine s_iload (j := 6) dX10_deal_53 rfl ?_
            obtain ⟨q12, hv13, h⟩ := bnd h
            refine s_callV (As := [vI x5, vI x6]) (rest := []) (r := none) (F' := q12) dX10_deal_55 (clX10_380 (Nat.le_of_ble_eq_true rfl) (Nat.le_of_ble_eq_true rfl)) ho rfl ⟨_, _, _, _, rfl, ho, hv13, rfl, rfl⟩ rfl (Nat.le_of_ble_eq_true rfl) ?_
            refine s_aload_n (j := 0) dX10_deal_58 rfl rfl ?_
            refine s_getI dX10_deal_59 flX10_371 ho ?_
            refine s_iconst dX10_deal_62 (cin rfl) ?_
            refine s_icmp_ne (tgt := 68) dX10_deal_63 rfl (fun hc14 => ?_) (fun hc14 => ?_)
            · have h := ifp hc14 h
              refine s_iload (j := 7) dX10_deal_68 rfl ?_
              refine s_if_ne (tgt := 80) dX10_deal_70 rfl (fun hc15 => ?_) (fun hc15 => ?_)
              · have h := ifp hc15 h
                refine s_iload (j := 7) dX10_deal_80 rfl ?_
                refine s_iconst dX10_deal_82 (cin rfl) ?_
                refine s_icmp_ne (tgt := 93) dX10_deal_83 rfl (fun hc16 => ?_) (fun hc16 => ?_)
                · have h := ifp hc16 h
                  refine s_aload_n (j := 0) dX10_deal_93 rfl rfl ?_
                  refine s_getI dX10_deal_94 flX10_374 ho ?_
                  have h := Option.some.inj h
                  subst h
                  exact s_ireturn dX10_deal_97 rfl hq
                · have h := ifn hc16 h
                  refine s_aload_n (j := 0) dX10_deal_86 rfl rfl ?_
                  refine s_getI dX10_deal_87 flX10_377 ho ?_
                  refine s_goto (tgt := 97) dX10_deal_90 rfl ?_
                  have h := Option.some.inj h
                  subst h
                  exact s_ireturn dX10_deal_97 rfl hq
              · have h := ifn hc15 h
                refine s_aload_n (j := 0) dX10_deal_73 rfl rfl ?_
                refine s_getI dX10_deal_74 flX10_371 ho ?_
                refine s_goto (tgt := 97) dX10_deal_77 rfl ?_
                have h := Option.some.inj h
                subst h
                exact s_ireturn dX10_deal_97 rfl hq
            · have h := ifn hc14 h
              refine s_iconst dX10_deal_66 (cin rfl) ?_
              have h := Option.some.inj h
              subst h
              exact s_ireturn dX10_deal_67 rfl hq
          · have h := ifn hc11 h
            refine s_iconst dX10_deal_48 (cin rfl) ?_
            have h := Option.some.inj h
            subst h
            exact s_ireturn dX10_deal_49 rfl hq
def gX10_deal : XG := fun As F r F' => ∃ o : Nat, ∃ x1 : Int, ∃ x2 : Int, ∃ x3 : Int, ∃ x4 : Int, ∃ x5 : Int, ∃ x6 : Int, ∃ x7 : Int, ∃ res : (Int × Mem), As = [vR o, vI x1, vI x2, vI x3, vI x4, vI x5, vI x6, vI x7] ∧ isK o 10 ∧ fX10_deal o x1 x2 x3 x4 x5 x6 x7 F = some res ∧ r = some (vI res.1) ∧ F' = res.2
theorem ctX10_deal : xCT yX10_deal cX10_deal 8 (some FieldType.int) 7 159 gX10_deal := xmet (by decide +kernel) (fun As F r F' hg => by obtain ⟨o, x1, x2, x3, x4, x5, x6, x7, res, rfl, ho, h, rfl, rfl⟩ := hg; exact Nat.le_of_ble_eq_true rfl) (fun As F r F' hg => by obtain ⟨o, x1, x2, x3, x4, x5, x6, x7, res, rfl, ho, h, rfl, rfl⟩ := hg; exact fX10_deal_ok o x1 x2 x3 x4 x5 x6 x7 _ _ ho h ⟨rfl, rfl⟩)
theorem mcX10_deal : Cond.code yX10_deal cX10_deal 8 (some FieldType.int) ∈ xw_T ∧ Cond.initialized yX10_deal.cls ∈ xw_T ∧ Cond.instanceMethod yX10_deal ∈ xw_T ∧ Cond.selects yX10_deal.cls yX10_deal yX10_deal ∈ xw_T := ⟨(xinT 1833 (by decide +kernel) (by decide +kernel)), (xinT 127 (by decide +kernel) (by decide +kernel)), (xinT 1831 (by decide +kernel) (by decide +kernel)), (xinT 1832 (by decide +kernel) (by decide +kernel))⟩
theorem dX10_halved_0 : decode cX10_halved 0 = .ok (.iload 5, 2) := by decide +kernel
theorem dX10_halved_2 : decode cX10_halved 2 = .ok (.iconst 0, 1) := by decide +kernel
theorem dX10_halved_3 : decode cX10_halved 3 = .ok (.iconst 1, 1) := by decide +kernel
theorem dX10_halved_4 : decode cX10_halved 4 = .ok (.invokestatic 115, 3) := by decide +kernel
theorem dX10_halved_7 : decode cX10_halved 7 = .ok (.ifCond .eq 16, 3) := by decide +kernel
theorem dX10_halved_10 : decode cX10_halved 10 = .ok (.aload_n 0, 1) := by decide +kernel
theorem dX10_halved_11 : decode cX10_halved 11 = .ok (.iload_n 1, 1) := by decide +kernel
theorem dX10_halved_12 : decode cX10_halved 12 = .ok (.iload_n 2, 1) := by decide +kernel
theorem dX10_halved_13 : decode cX10_halved 13 = .ok (.iload_n 3, 1) := by decide +kernel
theorem dX10_halved_14 : decode cX10_halved 14 = .ok (.iload 4, 2) := by decide +kernel
theorem dX10_halved_16 : decode cX10_halved 16 = .ok (.iconst 1, 1) := by decide +kernel
theorem dX10_halved_17 : decode cX10_halved 17 = .ok (.invokevirtual 355, 3) := by decide +kernel
theorem dX10_halved_20 : decode cX10_halved 20 = .ok (.ifCond .ne 5, 3) := by decide +kernel
theorem dX10_halved_23 : decode cX10_halved 23 = .ok (.iconst (-1), 1) := by decide +kernel
theorem dX10_halved_24 : decode cX10_halved 24 = .ok (.ireturn, 1) := by decide +kernel
theorem dX10_halved_25 : decode cX10_halved 25 = .ok (.aload_n 0, 1) := by decide +kernel
theorem dX10_halved_26 : decode cX10_halved 26 = .ok (.iconst 0, 1) := by decide +kernel
theorem dX10_halved_27 : decode cX10_halved 27 = .ok (.putfield 51, 3) := by decide +kernel
theorem dX10_halved_30 : decode cX10_halved 30 = .ok (.aload_n 0, 1) := by decide +kernel
theorem dX10_halved_31 : decode cX10_halved 31 = .ok (.iconst 1, 1) := by decide +kernel
theorem dX10_halved_32 : decode cX10_halved 32 = .ok (.invokevirtual 349, 3) := by decide +kernel
theorem dX10_halved_35 : decode cX10_halved 35 = .ok (.aload_n 0, 1) := by decide +kernel
theorem dX10_halved_36 : decode cX10_halved 36 = .ok (.invokevirtual 352, 3) := by decide +kernel
theorem dX10_halved_39 : decode cX10_halved 39 = .ok (.istore 6, 2) := by decide +kernel
theorem dX10_halved_41 : decode cX10_halved 41 = .ok (.aload_n 0, 1) := by decide +kernel
theorem dX10_halved_42 : decode cX10_halved 42 = .ok (.iconst 1, 1) := by decide +kernel
theorem dX10_halved_43 : decode cX10_halved 43 = .ok (.putfield 285, 3) := by decide +kernel
theorem dX10_halved_46 : decode cX10_halved 46 = .ok (.aload_n 0, 1) := by decide +kernel
theorem dX10_halved_47 : decode cX10_halved 47 = .ok (.iconst 1, 1) := by decide +kernel
theorem dX10_halved_48 : decode cX10_halved 48 = .ok (.invokevirtual 349, 3) := by decide +kernel
theorem dX10_halved_51 : decode cX10_halved 51 = .ok (.iconst 2, 1) := by decide +kernel
theorem dX10_halved_52 : decode cX10_halved 52 = .ok (.aload_n 0, 1) := by decide +kernel
theorem dX10_halved_53 : decode cX10_halved 53 = .ok (.invokevirtual 352, 3) := by decide +kernel
theorem dX10_halved_56 : decode cX10_halved 56 = .ok (.imul, 1) := by decide +kernel
theorem dX10_halved_57 : decode cX10_halved 57 = .ok (.istore 7, 2) := by decide +kernel
theorem dX10_halved_59 : decode cX10_halved 59 = .ok (.iload 5, 2) := by decide +kernel
theorem dX10_halved_61 : decode cX10_halved 61 = .ok (.ifCond .ne 8, 3) := by decide +kernel
theorem dX10_halved_64 : decode cX10_halved 64 = .ok (.iload 7, 2) := by decide +kernel
theorem dX10_halved_66 : decode cX10_halved 66 = .ok (.goto 15, 3) := by decide +kernel
theorem dX10_halved_69 : decode cX10_halved 69 = .ok (.iload 7, 2) := by decide +kernel
theorem dX10_halved_71 : decode cX10_halved 71 = .ok (.iload 6, 2) := by decide +kernel
theorem dX10_halved_73 : decode cX10_halved 73 = .ok (.if_icmp .le 7, 3) := by decide +kernel
theorem dX10_halved_76 : decode cX10_halved 76 = .ok (.iconst 1, 1) := by decide +kernel
theorem dX10_halved_77 : decode cX10_halved 77 = .ok (.goto 4, 3) := by decide +kernel
theorem dX10_halved_80 : decode cX10_halved 80 = .ok (.iconst 0, 1) := by decide +kernel
theorem dX10_halved_81 : decode cX10_halved 81 = .ok (.ireturn, 1) := by decide +kernel
def zX10_halved (Qr : Option PV → Mem → Prop) : XZ := (RX10, 7, 159, 8, some FieldType.int, Qr)
noncomputable def fX10_halved (o : Nat) (x1 : Int) (x2 : Int) (x3 : Int) (x4 : Int) (x5 : Int) (F : Mem) : Option (Int × Mem) :=
  if (fX10_isIn x5 0 1) = 0 then
    some ((-1), F)
  else
    (fX10_isAsked o x1 x2 x3 x4 1 F).bind fun q2 =>
    if q2.1 ≠ 0 then
      (fX10_solves o 1 (mset q2.2 o 29 0)).bind fun q5 =>
      (fX10_gain o q5).bind fun r7 =>
      (fX10_solves o 1 (mset q5 o 30 1)).bind fun q9 =>
      (fX10_gain o q9).bind fun r11 =>
      if x5 ≠ 0 then
        if (xw (2 * r11)) ≤ r7 then
          some (0, q9)
        else
          some (1, q9)
      else
        some (xw (2 * r11), q9)
    else
      some ((-1), q2.2)
theorem fX10_halved_ok {Qr : Option PV → Mem → Prop} : ∀ (o : Nat) (x1 : Int) (x2 : Int) (x3 : Int) (x4 : Int) (x5 : Int) (F : Mem) (res : (Int × Mem)) (ho : isK o 10), fX10_halved o x1 x2 x3 x4 x5 F = some res → Qr (some (vI res.1)) res.2 → PR cX10_halved (zX10_halved Qr) 0 [(0, vR o), (1, vI x1), (2, vI x2), (3, vI x3), (4, vI x4), (5, vI x5)] [] F := by
  intro o x1 x2 x3 x4 x5 F res ho h hq
  refine s_iload (j := 5) dX10_halved_0 rfl ?_
  refine s_iconst dX10_halved_2 (cin rfl) ?_
  refine s_iconst dX10_halved_3 (cin rfl) ?_
  refine s_callS (As := [vI x5, vI 0, vI 1]) (rest := []) (r := (some (vI (fX10_isIn x5 0 1)))) (F' := F) dX10_halved_4 (clX10_115 (Nat.le_of_ble_eq_true rfl) (Nat.le_of_ble_eq_true rfl)) rfl ⟨_, _, _, _, rfl, rfl, rfl, rfl⟩ rfl (Nat.le_of_ble_eq_true rfl) ?_
  refine s_if_eq (tgt := 23) dX10_halved_7 rfl (fun hc1 => ?_) (fun hc1 => ?_)
  · have h := ifp hc1 h
    refine s_iconst dX10_halved_23 (cin rfl) ?_
    have h := Option.some.inj h
    subst h
    exact s_ireturn dX10_halved_24 rfl hq
  · have h := ifn hc1 h
    refine s_aload_n (j := 0) dX10_halved_10 rfl rfl ?_
    refine s_iload_n (j := 1) dX10_halved_11 rfl rfl ?_
    refine s_iload_n (j := 2) dX10_halved_12 rfl rfl ?_
    refine s_iload_n (j := 3) dX10_halved_13 rfl rfl ?_
    refine s_iload (j := 4) dX10_halved_14 rfl ?_
    refine s_iconst dX10_halved_16 (cin rfl) ?_
    obtain ⟨q2, hv3, h⟩ := bnd h
    refine s_callV (As := [vI x1, vI x2, vI x3, vI x4, vI 1]) (rest := []) (r := (some (vI q2.1))) (F' := q2.2) dX10_halved_17 (clX10_355 (Nat.le_of_ble_eq_true rfl) (Nat.le_of_ble_eq_true rfl)) ho rfl ⟨_, _, _, _, _, _, _, rfl, ho, hv3, rfl, rfl⟩ rfl (Nat.le_of_ble_eq_true rfl) ?_
    refine s_if_ne (tgt := 25) dX10_halved_20 rfl (fun hc4 => ?_) (fun hc4 => ?_)
    · have h := ifp hc4 h
      refine s_aload_n (j := 0) dX10_halved_25 rfl rfl ?_
      refine s_iconst dX10_halved_26 (cin rfl) ?_
      refine s_putZ dX10_halved_27 flX10_51 fpX10_29 ho (Or.inl rfl) ?_
      refine s_aload_n (j := 0) dX10_halved_30 rfl rfl ?_
      refine s_iconst dX10_halved_31 (cin rfl) ?_
      obtain ⟨q5, hv6, h⟩ := bnd h
      refine s_callV (As := [vI 1]) (rest := []) (r := none) (F' := q5) dX10_halved_32 (clX10_349 (Nat.le_of_ble_eq_true rfl) (Nat.le_of_ble_eq_true rfl)) ho rfl ⟨_, _, _, rfl, ho, hv6, rfl, rfl⟩ rfl (Nat.le_of_ble_eq_true rfl) ?_
      refine s_aload_n (j := 0) dX10_halved_35 rfl rfl ?_
      obtain ⟨r7, hv8, h⟩ := bnd h
      refine s_callV (As := []) (rest := []) (r := (some (vI r7))) (F' := q5) dX10_halved_36 (clX10_352 (Nat.le_of_ble_eq_true rfl) (Nat.le_of_ble_eq_true rfl)) ho rfl ⟨_, _, rfl, ho, hv8, rfl, rfl⟩ rfl (Nat.le_of_ble_eq_true rfl) ?_
      refine s_istore (ls' := [(6, vI r7), (0, vR o), (1, vI x1), (2, vI x2), (3, vI x3), (4, vI x4), (5, vI x5)]) dX10_halved_39 (Nat.le_of_ble_eq_true rfl) rfl ?_
      refine s_aload_n (j := 1) dX10_halved_41 rfl rfl ?_
      refine s_iconst dX10_halved_42 (cin rfl) ?_
      refine s_putZ dX10_halved_43 flX10_285 fpX10_30 ho (Or.inr rfl) ?_
      refine s_aload_n (j := 1) dX10_halved_46 rfl rfl ?_
      refine s_iconst dX10_halved_47 (cin rfl) ?_
      obtain ⟨q9, hv10, h⟩ := bnd h
      refine s_callV (As := [vI 1]) (rest := []) (r := none) (F' := q9) dX10_halved_48 (clX10_349 (Nat.le_of_ble_eq_true rfl) (Nat.le_of_ble_eq_true rfl)) ho rfl ⟨_, _, _, rfl, ho, hv10, rfl, rfl⟩ rfl (Nat.le_of_ble_eq_true rfl) ?_
      refine s_iconst dX10_halved_51 (cin rfl) ?_
      refine s_aload_n (j := 1) dX10_halved_52 rfl rfl ?_
      obtain ⟨r11, hv12, h⟩ := bnd h
      refine s_callV (As := []) (rest := [vI 2]) (r := (some (vI r11))) (F' := q9) dX10_halved_53 (clX10_352 (Nat.le_of_ble_eq_true rfl) (Nat.le_of_ble_eq_true rfl)) ho rfl ⟨_, _, rfl, ho, hv12, rfl, rfl⟩ rfl (Nat.le_of_ble_eq_true rfl) ?_
      refine s_imul dX10_halved_56 ?_
      refine s_istore dX10_halved_57 (Nat.le_of_ble_eq_true rfl) rfl ?_
      refine s_iload (j := 7) dX10_halved_59 rfl ?_
      refine s_if_ne (tgt := 69) dX10_halved_61 rfl (fun hc13 => ?_) (fun hc13 => ?_)
      · have h := ifp hc13 h
        refine s_iload (j := 0) dX10_halved_69 rfl ?_
        refine s_iload (j := 1) dX10_halved_71 rfl ?_
        refine s_icmp_le (tgt := 80) dX10_halved_73 rfl (fun hc14 => ?_) (fun hc14 => ?_)
        · have h := ifp hc14 h
          refine s_iconst dX10_halved_80 (cin rfl) ?_
          have h := Option.some.inj h
          subst h
          exact s_ireturn dX10_halved_81 rfl hq
        · have h := ifn hc14 h
          refine s_iconst dX10_halved_76 (cin rfl) ?_
          refine s_goto (tgt := 81) dX10_halved_77 rfl ?_
          have h := Option.some.inj h
          subst h
          exact s_ireturn dX10_halved_81 rfl hq
      · have h := ifn hc13 h
        refine s_iload (j := 0) dX10_halved_64 rfl ?_
        refine s_goto (tgt := 81) dX10_halved_66 rfl ?_
        have h := Option.some.inj h
        subst h
        exact s_ireturn dX10_halved_81 rfl hq
    · have h := ifn hc4 h
      refine s_iconst dX10_halved_23 (cin rfl) ?_
      have h := Option.some.inj h
      subst h
      exact s_ireturn dX10_halved_24 rfl hq
def gX10_halved : XG := fun As F r F' => ∃ o : Nat, ∃ x1 : Int, ∃ x2 : Int, ∃ x3 : Int, ∃ x4 : Int, ∃ x5 : Int, ∃ res : (Int × Mem), As = [vR o, vI x1, vI x2, vI x3, vI x4, vI x5] ∧ isK o 10 ∧ fX10_halved o x1 x2 x3 x4 x5 F = some res ∧ r = some (vI res.1) ∧ F' = res.2
theorem ctX10_halved : xCT yX10_halved cX10_halved 8 (some FieldType.int) 7 159 gX10_halved := xmet (by decide +kernel) (fun As F r F' hg => by obtain ⟨o, x1, x2, x3, x4, x5, res, rfl, ho, h, rfl, rfl⟩ := hg; exact Nat.le_of_ble_eq_true rfl) (fun As F r F' hg => by obtain ⟨o, x1, x2, x3, x4, x5, res, rfl, ho, h, rfl, rfl⟩ := hg; exact fX10_halved_ok o x1 x2 x3 x4 x5 _ _ ho h ⟨rfl, rfl⟩)
theorem mcX10_halved : Cond.code yX10_halved cX10_halved 8 (some FieldType.int) ∈ xw_T ∧ Cond.initialized yX10_halved.cls ∈ xw_T ∧ Cond.instanceMethod yX10_halved ∈ xw_T ∧ Cond.selects yX10_halved.cls yX10_halved yX10_halved ∈ xw_T := ⟨(xinT 1841 (by decide +kernel) (by decide +kernel)), (xinT 127 (by decide +kernel) (by decide +kernel)), (xinT 1839 (by decide +kernel) (by decide +kernel)), (xinT 1840 (by decide +kernel) (by decide +kernel))⟩
theorem dX10_drawn_0 : decode cX10_drawn 0 = .ok (.aload_n 0, 1) := by decide +kernel
theorem dX10_drawn_1 : decode cX10_drawn 1 = .ok (.aload_n 0, 1) := by decide +kernel
theorem dX10_drawn_2 : decode cX10_drawn 2 = .ok (.getfield 383, 3) := by decide +kernel
theorem dX10_drawn_5 : decode cX10_drawn 5 = .ok (.ldc_w 386, 3) := by decide +kernel
theorem dX10_drawn_8 : decode cX10_drawn 8 = .ok (.imul, 1) := by decide +kernel
theorem dX10_drawn_9 : decode cX10_drawn 9 = .ok (.sipush 12345, 3) := by decide +kernel
theorem dX10_drawn_12 : decode cX10_drawn 12 = .ok (.iadd, 1) := by decide +kernel
theorem dX10_drawn_13 : decode cX10_drawn 13 = .ok (.putfield 383, 3) := by decide +kernel
theorem dX10_drawn_16 : decode cX10_drawn 16 = .ok (.aload_n 0, 1) := by decide +kernel
theorem dX10_drawn_17 : decode cX10_drawn 17 = .ok (.getfield 383, 3) := by decide +kernel
theorem dX10_drawn_20 : decode cX10_drawn 20 = .ok (.bipush 16, 2) := by decide +kernel
theorem dX10_drawn_22 : decode cX10_drawn 22 = .ok (.iushr, 1) := by decide +kernel
theorem dX10_drawn_23 : decode cX10_drawn 23 = .ok (.iload_n 1, 1) := by decide +kernel
theorem dX10_drawn_24 : decode cX10_drawn 24 = .ok (.irem, 1) := by decide +kernel
theorem dX10_drawn_25 : decode cX10_drawn 25 = .ok (.ireturn, 1) := by decide +kernel
def zX10_drawn (Qr : Option PV → Mem → Prop) : XZ := (RX10, 0, 0, 2, some FieldType.int, Qr)
noncomputable def fX10_drawn (o : Nat) (x1 : Int) (F : Mem) : Option (Int × Mem) :=
  if x1 = 0 then none else
  some (Int.tmod (xushr ((mset F o 44 (xw ((xw ((F o 44) * 1103515245)) + 12345))) o 44) 16) x1, mset F o 44 (xw ((xw ((F o 44) * 1103515245)) + 12345)))
theorem fX10_drawn_ok {Qr : Option PV → Mem → Prop} : ∀ (o : Nat) (x1 : Int) (F : Mem) (res : (Int × Mem)) (ho : isK o 10), fX10_drawn o x1 F = some res → Qr (some (vI res.1)) res.2 → PR cX10_drawn (zX10_drawn Qr) 0 [(0, vR o), (1, vI x1)] [] F := by
  intro o x1 F res ho h hq
  refine s_aload_n (j := 0) dX10_drawn_0 rfl rfl ?_
  refine s_aload_n (j := 0) dX10_drawn_1 rfl rfl ?_
  refine s_getI dX10_drawn_2 flX10_383 ho ?_
  refine s_ldcw dX10_drawn_5 kcX10_386 (cin rfl) ?_
  refine s_imul dX10_drawn_8 ?_
  refine s_sipush dX10_drawn_9 rfl (cin rfl) ?_
  refine s_iadd dX10_drawn_12 ?_
  refine s_putI dX10_drawn_13 flX10_383 fpX10_44 ho ?_
  refine s_aload_n (j := 0) dX10_drawn_16 rfl rfl ?_
  refine s_getI dX10_drawn_17 flX10_383 ho ?_
  refine s_bipush dX10_drawn_20 rfl (cin rfl) ?_
  refine s_iushr dX10_drawn_22 ?_
  refine s_iload_n (j := 1) dX10_drawn_23 rfl rfl ?_
  obtain ⟨hd1, h⟩ := gdn h
  refine s_irem dX10_drawn_24 hd1 ?_
  have h := Option.some.inj h
  subst h
  exact s_ireturn dX10_drawn_25 rfl hq
def gX10_drawn : XG := fun As F r F' => ∃ o : Nat, ∃ x1 : Int, ∃ res : (Int × Mem), As = [vR o, vI x1] ∧ isK o 10 ∧ fX10_drawn o x1 F = some res ∧ r = some (vI res.1) ∧ F' = res.2
theorem ctX10_drawn : xCT yX10_drawn cX10_drawn 2 (some FieldType.int) 0 0 gX10_drawn := xmet (by decide +kernel) (fun As F r F' hg => by obtain ⟨o, x1, res, rfl, ho, h, rfl, rfl⟩ := hg; exact Nat.le_of_ble_eq_true rfl) (fun As F r F' hg => by obtain ⟨o, x1, res, rfl, ho, h, rfl, rfl⟩ := hg; exact fX10_drawn_ok o x1 _ _ ho h ⟨rfl, rfl⟩)
theorem mcX10_drawn : Cond.code yX10_drawn cX10_drawn 2 (some FieldType.int) ∈ xw_T ∧ Cond.initialized yX10_drawn.cls ∈ xw_T ∧ Cond.instanceMethod yX10_drawn ∈ xw_T ∧ Cond.selects yX10_drawn.cls yX10_drawn yX10_drawn ∈ xw_T := ⟨(xinT 1849 (by decide +kernel) (by decide +kernel)), (xinT 127 (by decide +kernel) (by decide +kernel)), (xinT 1848 (by decide +kernel) (by decide +kernel)), (xinT 101 (by decide +kernel) (by decide +kernel))⟩
theorem clX10_387 {fr lo : Nat} (h1 : 0 + 1 ≤ fr) (h2 : 8 + (2 + 11) + 0 ≤ lo) : xCall RX10 fr lo 0 387 10 1 gX10_drawn := ⟨_, _, _, _, _, _, ctX10_drawn, h1, h2, mcX10_drawn.1, (xinT 1846 (by decide +kernel) (by decide +kernel)), mcX10_drawn.2.1, ⟨by decide +kernel, by decide +kernel, by decide +kernel⟩, by rw [if_pos rfl]; exact ⟨mcX10_drawn.2.2.1, mcX10_drawn.2.2.2, _, _, rfl⟩⟩
theorem dX10_needs_0 : decode cX10_needs 0 = .ok (.iload 6, 2) := by decide +kernel
theorem dX10_needs_2 : decode cX10_needs 2 = .ok (.iconst 1, 1) := by decide +kernel
theorem dX10_needs_3 : decode cX10_needs 3 = .ok (.bipush 9, 2) := by decide +kernel
theorem dX10_needs_5 : decode cX10_needs 5 = .ok (.invokestatic 115, 3) := by decide +kernel
theorem dX10_needs_8 : decode cX10_needs 8 = .ok (.ifCond .eq 26, 3) := by decide +kernel
theorem dX10_needs_11 : decode cX10_needs 11 = .ok (.iload 7, 2) := by decide +kernel
theorem dX10_needs_13 : decode cX10_needs 13 = .ok (.iconst 0, 1) := by decide +kernel
theorem dX10_needs_14 : decode cX10_needs 14 = .ok (.iconst 2, 1) := by decide +kernel
theorem dX10_needs_15 : decode cX10_needs 15 = .ok (.invokestatic 115, 3) := by decide +kernel
theorem dX10_needs_18 : decode cX10_needs 18 = .ok (.ifCond .eq 16, 3) := by decide +kernel
theorem dX10_needs_21 : decode cX10_needs 21 = .ok (.aload_n 0, 1) := by decide +kernel
theorem dX10_needs_22 : decode cX10_needs 22 = .ok (.iload_n 1, 1) := by decide +kernel
theorem dX10_needs_23 : decode cX10_needs 23 = .ok (.iload_n 2, 1) := by decide +kernel
theorem dX10_needs_24 : decode cX10_needs 24 = .ok (.iload_n 3, 1) := by decide +kernel
theorem dX10_needs_25 : decode cX10_needs 25 = .ok (.iload 4, 2) := by decide +kernel
theorem dX10_needs_27 : decode cX10_needs 27 = .ok (.iconst 1, 1) := by decide +kernel
theorem dX10_needs_28 : decode cX10_needs 28 = .ok (.invokevirtual 355, 3) := by decide +kernel
theorem dX10_needs_31 : decode cX10_needs 31 = .ok (.ifCond .ne 6, 3) := by decide +kernel
theorem dX10_needs_34 : decode cX10_needs 34 = .ok (.bipush (-2), 2) := by decide +kernel
theorem dX10_needs_36 : decode cX10_needs 36 = .ok (.ireturn, 1) := by decide +kernel
theorem dX10_needs_37 : decode cX10_needs 37 = .ok (.aload_n 0, 1) := by decide +kernel
theorem dX10_needs_38 : decode cX10_needs 38 = .ok (.iload 5, 2) := by decide +kernel
theorem dX10_needs_40 : decode cX10_needs 40 = .ok (.putfield 383, 3) := by decide +kernel
theorem dX10_needs_43 : decode cX10_needs 43 = .ok (.iconst 0, 1) := by decide +kernel
theorem dX10_needs_44 : decode cX10_needs 44 = .ok (.istore 8, 2) := by decide +kernel
theorem dX10_needs_46 : decode cX10_needs 46 = .ok (.iconst 0, 1) := by decide +kernel
theorem dX10_needs_47 : decode cX10_needs 47 = .ok (.istore 9, 2) := by decide +kernel
theorem dX10_needs_49 : decode cX10_needs 49 = .ok (.iconst 0, 1) := by decide +kernel
theorem dX10_needs_50 : decode cX10_needs 50 = .ok (.istore 10, 2) := by decide +kernel
theorem dX10_needs_52 : decode cX10_needs 52 = .ok (.iconst 0, 1) := by decide +kernel
theorem dX10_needs_53 : decode cX10_needs 53 = .ok (.istore 11, 2) := by decide +kernel
theorem dX10_needs_55 : decode cX10_needs 55 = .ok (.iload 11, 2) := by decide +kernel
theorem dX10_needs_57 : decode cX10_needs 57 = .ok (.iload 6, 2) := by decide +kernel
theorem dX10_needs_59 : decode cX10_needs 59 = .ok (.if_icmp .ge 120, 3) := by decide +kernel
theorem dX10_needs_62 : decode cX10_needs 62 = .ok (.aload_n 0, 1) := by decide +kernel
theorem dX10_needs_63 : decode cX10_needs 63 = .ok (.aload_n 0, 1) := by decide +kernel
theorem dX10_needs_64 : decode cX10_needs 64 = .ok (.iconst 5, 1) := by decide +kernel
theorem dX10_needs_65 : decode cX10_needs 65 = .ok (.invokevirtual 181, 3) := by decide +kernel
theorem dX10_needs_68 : decode cX10_needs 68 = .ok (.invokevirtual 387, 3) := by decide +kernel
theorem dX10_needs_71 : decode cX10_needs 71 = .ok (.istore 12, 2) := by decide +kernel
theorem dX10_needs_73 : decode cX10_needs 73 = .ok (.aload_n 0, 1) := by decide +kernel
theorem dX10_needs_74 : decode cX10_needs 74 = .ok (.aload_n 0, 1) := by decide +kernel
theorem dX10_needs_75 : decode cX10_needs 75 = .ok (.iconst 0, 1) := by decide +kernel
theorem dX10_needs_76 : decode cX10_needs 76 = .ok (.invokevirtual 181, 3) := by decide +kernel
theorem dX10_needs_79 : decode cX10_needs 79 = .ok (.invokevirtual 387, 3) := by decide +kernel
theorem dX10_needs_82 : decode cX10_needs 82 = .ok (.istore 13, 2) := by decide +kernel
theorem dX10_needs_84 : decode cX10_needs 84 = .ok (.iload 13, 2) := by decide +kernel
theorem dX10_needs_86 : decode cX10_needs 86 = .ok (.aload_n 0, 1) := by decide +kernel
theorem dX10_needs_87 : decode cX10_needs 87 = .ok (.iconst 3, 1) := by decide +kernel
theorem dX10_needs_88 : decode cX10_needs 88 = .ok (.invokevirtual 387, 3) := by decide +kernel
theorem dX10_needs_91 : decode cX10_needs 91 = .ok (.iadd, 1) := by decide +kernel
theorem dX10_needs_92 : decode cX10_needs 92 = .ok (.iconst 1, 1) := by decide +kernel
theorem dX10_needs_93 : decode cX10_needs 93 = .ok (.iadd, 1) := by decide +kernel
theorem dX10_needs_94 : decode cX10_needs 94 = .ok (.istore 14, 2) := by decide +kernel
theorem dX10_needs_96 : decode cX10_needs 96 = .ok (.aload_n 0, 1) := by decide +kernel
theorem dX10_needs_97 : decode cX10_needs 97 = .ok (.iload 12, 2) := by decide +kernel
theorem dX10_needs_99 : decode cX10_needs 99 = .ok (.iload 13, 2) := by decide +kernel
theorem dX10_needs_101 : decode cX10_needs 101 = .ok (.iload 14, 2) := by decide +kernel
theorem dX10_needs_103 : decode cX10_needs 103 = .ok (.aload_n 0, 1) := by decide +kernel
theorem dX10_needs_104 : decode cX10_needs 104 = .ok (.iconst 0, 1) := by decide +kernel
theorem dX10_needs_105 : decode cX10_needs 105 = .ok (.invokevirtual 181, 3) := by decide +kernel
theorem dX10_needs_108 : decode cX10_needs 108 = .ok (.if_icmp .le 11, 3) := by decide +kernel
theorem dX10_needs_111 : decode cX10_needs 111 = .ok (.aload_n 0, 1) := by decide +kernel
theorem dX10_needs_112 : decode cX10_needs 112 = .ok (.iconst 0, 1) := by decide +kernel
theorem dX10_needs_113 : decode cX10_needs 113 = .ok (.invokevirtual 181, 3) := by decide +kernel
theorem dX10_needs_116 : decode cX10_needs 116 = .ok (.goto 5, 3) := by decide +kernel
theorem dX10_needs_119 : decode cX10_needs 119 = .ok (.iload 14, 2) := by decide +kernel
theorem dX10_needs_121 : decode cX10_needs 121 = .ok (.invokevirtual 365, 3) := by decide +kernel
theorem dX10_needs_124 : decode cX10_needs 124 = .ok (.istore 15, 2) := by decide +kernel
theorem dX10_needs_126 : decode cX10_needs 126 = .ok (.iload 9, 2) := by decide +kernel
theorem dX10_needs_128 : decode cX10_needs 128 = .ok (.iload 15, 2) := by decide +kernel
theorem dX10_needs_130 : decode cX10_needs 130 = .ok (.ifCond .ge 7, 3) := by decide +kernel
theorem dX10_needs_133 : decode cX10_needs 133 = .ok (.iconst 1, 1) := by decide +kernel
theorem dX10_needs_134 : decode cX10_needs 134 = .ok (.goto 4, 3) := by decide +kernel
theorem dX10_needs_137 : decode cX10_needs 137 = .ok (.iconst 0, 1) := by decide +kernel
theorem dX10_needs_138 : decode cX10_needs 138 = .ok (.iadd, 1) := by decide +kernel
theorem dX10_needs_139 : decode cX10_needs 139 = .ok (.istore 9, 2) := by decide +kernel
theorem dX10_needs_141 : decode cX10_needs 141 = .ok (.iload 8, 2) := by decide +kernel
theorem dX10_needs_143 : decode cX10_needs 143 = .ok (.iload 15, 2) := by decide +kernel
theorem dX10_needs_145 : decode cX10_needs 145 = .ok (.ifCond .ge 7, 3) := by decide +kernel
theorem dX10_needs_148 : decode cX10_needs 148 = .ok (.iconst 0, 1) := by decide +kernel
theorem dX10_needs_149 : decode cX10_needs 149 = .ok (.goto 5, 3) := by decide +kernel
theorem dX10_needs_152 : decode cX10_needs 152 = .ok (.iload 15, 2) := by decide +kernel
theorem dX10_needs_154 : decode cX10_needs 154 = .ok (.iadd, 1) := by decide +kernel
theorem dX10_needs_155 : decode cX10_needs 155 = .ok (.istore 8, 2) := by decide +kernel
theorem dX10_needs_157 : decode cX10_needs 157 = .ok (.iload 15, 2) := by decide +kernel
theorem dX10_needs_159 : decode cX10_needs 159 = .ok (.iload 10, 2) := by decide +kernel
theorem dX10_needs_161 : decode cX10_needs 161 = .ok (.if_icmp .le 8, 3) := by decide +kernel
theorem dX10_needs_164 : decode cX10_needs 164 = .ok (.iload 15, 2) := by decide +kernel
theorem dX10_needs_166 : decode cX10_needs 166 = .ok (.goto 5, 3) := by decide +kernel
theorem dX10_needs_169 : decode cX10_needs 169 = .ok (.iload 10, 2) := by decide +kernel
theorem dX10_needs_171 : decode cX10_needs 171 = .ok (.istore 10, 2) := by decide +kernel
theorem dX10_needs_173 : decode cX10_needs 173 = .ok (.iinc 11 1, 3) := by decide +kernel
theorem dX10_needs_176 : decode cX10_needs 176 = .ok (.goto (-121), 3) := by decide +kernel
theorem dX10_needs_179 : decode cX10_needs 179 = .ok (.iload 7, 2) := by decide +kernel
theorem dX10_needs_181 : decode cX10_needs 181 = .ok (.ifCond .ne 8, 3) := by decide +kernel
theorem dX10_needs_184 : decode cX10_needs 184 = .ok (.iload 8, 2) := by decide +kernel
theorem dX10_needs_186 : decode cX10_needs 186 = .ok (.goto 16, 3) := by decide +kernel
theorem dX10_needs_189 : decode cX10_needs 189 = .ok (.iload 7, 2) := by decide +kernel
theorem dX10_needs_191 : decode cX10_needs 191 = .ok (.iconst 1, 1) := by decide +kernel
theorem dX10_needs_192 : decode cX10_needs 192 = .ok (.if_icmp .ne 8, 3) := by decide +kernel
theorem dX10_needs_195 : decode cX10_needs 195 = .ok (.iload 9, 2) := by decide +kernel
theorem dX10_needs_197 : decode cX10_needs 197 = .ok (.goto 5, 3) := by decide +kernel
theorem dX10_needs_200 : decode cX10_needs 200 = .ok (.iload 10, 2) := by decide +kernel
theorem dX10_needs_202 : decode cX10_needs 202 = .ok (.ireturn, 1) := by decide +kernel
def zX10_needs (Qr : Option PV → Mem → Prop) : XZ := (RX10, 7, 159, 16, some FieldType.int, Qr)
noncomputable def fX10_needs_b154 (k55 : Nat → Int → Int → Int → Int → Int → Int → Mem → Option (Int × Mem)) (o : Nat) (x6 : Int) (x7 : Int) (x9 : Int) (x10 : Int) (x11 : Int) (x15 : Int) (s0 : Int) (s1 : Int) (F : Mem) : Option (Int × Mem) :=
  if x15 ≤ x10 then
    k55 o x6 x7 (xw (s0 + s1)) x9 x10 (xw (x11 + 1)) F
  else
    k55 o x6 x7 (xw (s0 + s1)) x9 x15 (xw (x11 + 1)) F
noncomputable def fX10_needs_b138 (k55 : Nat → Int → Int → Int → Int → Int → Int → Mem → Option (Int × Mem)) (o : Nat) (x6 : Int) (x7 : Int) (x8 : Int) (x10 : Int) (x11 : Int) (x15 : Int) (s0 : Int) (s1 : Int) (F : Mem) : Option (Int × Mem) :=
  if 0 ≤ x15 then
    fX10_needs_b154 k55 o x6 x7 (xw (s0 + s1)) x10 x11 x15 x8 x15 F
  else
    fX10_needs_b154 k55 o x6 x7 (xw (s0 + s1)) x10 x11 x15 x8 0 F
noncomputable def fX10_needs_b121 (k55 : Nat → Int → Int → Int → Int → Int → Int → Mem → Option (Int × Mem)) (o : Nat) (x6 : Int) (x7 : Int) (x8 : Int) (x9 : Int) (x10 : Int) (x11 : Int) (s0 : Nat) (s1 : Int) (s2 : Int) (s3 : Int) (F : Mem) : Option (Int × Mem) :=
  (fX10_harmOf s0 s1 s2 s3 F).bind fun q1 =>
  if 0 ≤ q1.1 then
    fX10_needs_b138 k55 o x6 x7 x8 x10 x11 q1.1 x9 0 q1.2
  else
    fX10_needs_b138 k55 o x6 x7 x8 x10 x11 q1.1 x9 1 q1.2
noncomputable def fX10_needs_b55 : Nat → Nat → Int → Int → Int → Int → Int → Int → Mem → Option (Int × Mem)
  | 0, _, _, _, _, _, _, _, _ => none
  | n + 1, o, x6, x7, x8, x9, x10, x11, F =>
    if x6 ≤ x11 then
      if x7 ≠ 0 then
        if x7 ≠ 1 then
          some (x10, F)
        else
          some (x9, F)
      else
        some (x8, F)
    else
      (fX10_of o 5 F).bind fun r4 =>
      (fX10_drawn o r4 F).bind fun q6 =>
      (fX10_of o 0 q6.2).bind fun r8 =>
      (fX10_drawn o r8 q6.2).bind fun q10 =>
      (fX10_drawn o 3 q10.2).bind fun q12 =>
      (fX10_of o 0 q12.2).bind fun r14 =>
      if (xw ((xw (q10.1 + q12.1)) + 1)) ≤ r14 then
        fX10_needs_b121 (fX10_needs_b55 n) o x6 x7 x8 x9 x10 x11 o q6.1 q10.1 (xw ((xw (q10.1 + q12.1)) + 1)) q12.2
      else
        (fX10_of o 0 q12.2).bind fun r17 =>
        fX10_needs_b121 (fX10_needs_b55 n) o x6 x7 x8 x9 x10 x11 o q6.1 q10.1 r17 q12.2
noncomputable def fX10_needs (o : Nat) (x1 : Int) (x2 : Int) (x3 : Int) (x4 : Int) (x5 : Int) (x6 : Int) (x7 : Int) (F : Mem) : Option (Int × Mem) :=
  if (fX10_isIn x6 1 9) = 0 then
    some ((-2), F)
  else
    if (fX10_isIn x7 0 2) = 0 then
      some ((-2), F)
    else
      (fX10_isAsked o x1 x2 x3 x4 1 F).bind fun q3 =>
      if q3.1 ≠ 0 then
        fX10_needs_b55 FU o x6 x7 0 0 0 0 (mset q3.2 o 44 x5)
      else
        some ((-2), q3.2)
theorem fX10_needs_b154_ok {Qr : Option PV → Mem → Prop}  (k55 : Nat → Int → Int → Int → Int → Int → Int → Mem → Option (Int × Mem)) (hk55 : ∀ (o : Nat) (x6 : Int) (x7 : Int) (x8 : Int) (x9 : Int) (x10 : Int) (x11 : Int) (F : Mem) (res : (Int × Mem)) (ho : isK o 10), k55 o x6 x7 x8 x9 x10 x11 F = some res → Qr (some (vI res.1)) res.2 → PR cX10_needs (zX10_needs Qr) 55 [(0, vR o), (6, vI x6), (7, vI x7), (8, vI x8), (9, vI x9), (10, vI x10), (11, vI x11)] [] F) : ∀ (o : Nat) (x6 : Int) (x7 : Int) (x9 : Int) (x10 : Int) (x11 : Int) (x15 : Int) (s0 : Int) (s1 : Int) (F : Mem) (res : (Int × Mem)) (ho : isK o 10), fX10_needs_b154 k55 o x6 x7 x9 x10 x11 x15 s0 s1 F = some res → Qr (some (vI res.1)) res.2 → PR cX10_needs (zX10_needs Qr) 154 [(0, vR o), (6, vI x6), (7, vI x7), (9, vI x9), (10, vI x10), (11, vI x11), (15, vI x15)] [vI s1, vI s0] F := by
  intro o x6 x7 x9 x10 x11 x15 s0 s1 F res ho h hq
  refine s_iadd dX10_needs_154 ?_
  refine s_istore (ls' := [(8, vI (xw (s0 + s1))), (0, vR o), (6, vI x6), (7, vI x7), (9, vI x9), (10, vI x10), (11, vI x11), (15, vI x15)]) dX10_needs_155 (Nat.le_of_ble_eq_true rfl) rfl ?_
  refine s_iload (j := 7) dX10_needs_157 rfl ?_
  refine s_iload (j := 5) dX10_needs_159 rfl ?_
  refine s_icmp_le (tgt := 169) dX10_needs_161 rfl (fun hc1 => ?_) (fun hc1 => ?_)
  · have h := ifp hc1 h
    refine s_iload (j := 5) dX10_needs_169 rfl ?_
    refine s_istore (ls' := [(10, vI x10), (8, vI (xw (s0 + s1))), (0, vR o), (6, vI x6), (7, vI x7), (9, vI x9), (11, vI x11), (15, vI x15)]) dX10_needs_171 (Nat.le_of_ble_eq_true rfl) rfl ?_
    refine s_iinc (j := 6) dX10_needs_173 rfl (Nat.le_of_ble_eq_true rfl) rfl ?_
    refine s_goto (tgt := 55) dX10_needs_176 rfl ?_
    exact s_sub (ks := [3, 4, 5, 2, 6, 1, 0]) rfl (hk55 o x6 x7 (xw (s0 + s1)) x9 x10 (xw (x11 + 1)) F _ ho h hq)
  · have h := ifn hc1 h
    refine s_iload (j := 7) dX10_needs_164 rfl ?_
    refine s_goto (tgt := 171) dX10_needs_166 rfl ?_
    refine s_istore (ls' := [(10, vI x15), (8, vI (xw (s0 + s1))), (0, vR o), (6, vI x6), (7, vI x7), (9, vI x9), (11, vI x11), (15, vI x15)]) dX10_needs_171 (Nat.le_of_ble_eq_true rfl) rfl ?_
    refine s_iinc (j := 6) dX10_needs_173 rfl (Nat.le_of_ble_eq_true rfl) rfl ?_
    refine s_goto (tgt := 55) dX10_needs_176 rfl ?_
    exact s_sub (ks := [3, 4, 5, 2, 6, 1, 0]) rfl (hk55 o x6 x7 (xw (s0 + s1)) x9 x15 (xw (x11 + 1)) F _ ho h hq)
theorem fX10_needs_b138_ok {Qr : Option PV → Mem → Prop}  (k55 : Nat → Int → Int → Int → Int → Int → Int → Mem → Option (Int × Mem)) (hk55 : ∀ (o : Nat) (x6 : Int) (x7 : Int) (x8 : Int) (x9 : Int) (x10 : Int) (x11 : Int) (F : Mem) (res : (Int × Mem)) (ho : isK o 10), k55 o x6 x7 x8 x9 x10 x11 F = some res → Qr (some (vI res.1)) res.2 → PR cX10_needs (zX10_needs Qr) 55 [(0, vR o), (6, vI x6), (7, vI x7), (8, vI x8), (9, vI x9), (10, vI x10), (11, vI x11)] [] F) : ∀ (o : Nat) (x6 : Int) (x7 : Int) (x8 : Int) (x10 : Int) (x11 : Int) (x15 : Int) (s0 : Int) (s1 : Int) (F : Mem) (res : (Int × Mem)) (ho : isK o 10), fX10_needs_b138 k55 o x6 x7 x8 x10 x11 x15 s0 s1 F = some res → Qr (some (vI res.1)) res.2 → PR cX10_needs (zX10_needs Qr) 138 [(0, vR o), (6, vI x6), (7, vI x7), (8, vI x8), (10, vI x10), (11, vI x11), (15, vI x15)] [vI s1, vI s0] F := by
  intro o x6 x7 x8 x10 x11 x15 s0 s1 F res ho h hq
  refine s_iadd dX10_needs_138 ?_
  refine s_istore (ls' := [(9, vI (xw (s0 + s1))), (0, vR o), (6, vI x6), (7, vI x7), (8, vI x8), (10, vI x10), (11, vI x11), (15, vI x15)]) dX10_needs_139 (Nat.le_of_ble_eq_true rfl) rfl ?_
  refine s_iload (j := 4) dX10_needs_141 rfl ?_
  refine s_iload (j := 7) dX10_needs_143 rfl ?_
  refine s_if_ge (tgt := 152) dX10_needs_145 rfl (fun hc1 => ?_) (fun hc1 => ?_)
  · have h := ifp hc1 h
    refine s_iload (j := 7) dX10_needs_152 rfl ?_
    exact s_sub (ks := [1, 2, 3, 0, 5, 6, 7]) rfl (fX10_needs_b154_ok k55 hk55 o x6 x7 (xw (s0 + s1)) x10 x11 x15 x8 x15 F _ ho h hq)
  · have h := ifn hc1 h
    refine s_iconst dX10_needs_148 (cin rfl) ?_
    refine s_goto (tgt := 154) dX10_needs_149 rfl ?_
    exact s_sub (ks := [1, 2, 3, 0, 5, 6, 7]) rfl (fX10_needs_b154_ok k55 hk55 o x6 x7 (xw (s0 + s1)) x10 x11 x15 x8 0 F _ ho h hq)
theorem fX10_needs_b121_ok {Qr : Option PV → Mem → Prop}  (k55 : Nat → Int → Int → Int → Int → Int → Int → Mem → Option (Int × Mem)) (hk55 : ∀ (o : Nat) (x6 : Int) (x7 : Int) (x8 : Int) (x9 : Int) (x10 : Int) (x11 : Int) (F : Mem) (res : (Int × Mem)) (ho : isK o 10), k55 o x6 x7 x8 x9 x10 x11 F = some res → Qr (some (vI res.1)) res.2 → PR cX10_needs (zX10_needs Qr) 55 [(0, vR o), (6, vI x6), (7, vI x7), (8, vI x8), (9, vI x9), (10, vI x10), (11, vI x11)] [] F) : ∀ (o : Nat) (x6 : Int) (x7 : Int) (x8 : Int) (x9 : Int) (x10 : Int) (x11 : Int) (s0 : Nat) (s1 : Int) (s2 : Int) (s3 : Int) (F : Mem) (res : (Int × Mem)) (ho : isK o 10) (hs0 : isK s0 10), fX10_needs_b121 k55 o x6 x7 x8 x9 x10 x11 s0 s1 s2 s3 F = some res → Qr (some (vI res.1)) res.2 → PR cX10_needs (zX10_needs Qr) 121 [(0, vR o), (6, vI x6), (7, vI x7), (8, vI x8), (9, vI x9), (10, vI x10), (11, vI x11)] [vI s3, vI s2, vI s1, vR s0] F := by
  intro o x6 x7 x8 x9 x10 x11 s0 s1 s2 s3 F res ho hs0 h hq
  obtain ⟨q1, hv2, h⟩ := bnd h
  refine s_callV (As := [vI s1, vI s2, vI s3]) (rest := []) (r := (some (vI q1.1))) (F' := q1.2) dX10_needs_121 (clX10_365 (Nat.le_of_ble_eq_true rfl) (Nat.le_of_ble_eq_true rfl)) hs0 rfl ⟨_, _, _, _, _, rfl, hs0, hv2, rfl, rfl⟩ rfl (Nat.le_of_ble_eq_true rfl) ?_
  refine s_istore (ls' := [(15, vI q1.1), (0, vR o), (6, vI x6), (7, vI x7), (8, vI x8), (9, vI x9), (10, vI x10), (11, vI x11)]) dX10_needs_124 (Nat.le_of_ble_eq_true rfl) rfl ?_
  refine s_iload (j := 5) dX10_needs_126 rfl ?_
  refine s_iload (j := 0) dX10_needs_128 rfl ?_
  refine s_if_ge (tgt := 137) dX10_needs_130 rfl (fun hc3 => ?_) (fun hc3 => ?_)
  · have h := ifp hc3 h
    refine s_iconst dX10_needs_137 (cin rfl) ?_
    exact s_sub (ks := [1, 2, 3, 4, 6, 7, 0]) rfl (fX10_needs_b138_ok k55 hk55 o x6 x7 x8 x10 x11 q1.1 x9 0 q1.2 _ ho h hq)
  · have h := ifn hc3 h
    refine s_iconst dX10_needs_133 (cin rfl) ?_
    refine s_goto (tgt := 138) dX10_needs_134 rfl ?_
    exact s_sub (ks := [1, 2, 3, 4, 6, 7, 0]) rfl (fX10_needs_b138_ok k55 hk55 o x6 x7 x8 x10 x11 q1.1 x9 1 q1.2 _ ho h hq)
theorem fX10_needs_b55_ok {Qr : Option PV → Mem → Prop}  : ∀ (n : Nat) (o : Nat) (x6 : Int) (x7 : Int) (x8 : Int) (x9 : Int) (x10 : Int) (x11 : Int) (F : Mem) (res : (Int × Mem)) (ho : isK o 10), fX10_needs_b55 n o x6 x7 x8 x9 x10 x11 F = some res → Qr (some (vI res.1)) res.2 → PR cX10_needs (zX10_needs Qr) 55 [(0, vR o), (6, vI x6), (7, vI x7), (8, vI x8), (9, vI x9), (10, vI x10), (11, vI x11)] [] F := by
  intro n
  induction n with
  | zero => intro o x6 x7 x8 x9 x10 x11 F res ho h hq; exact nomatch (show (none : Option _) = some _ from h)
  | succ n ih =>
    intro o x6 x7 x8 x9 x10 x11 F res ho h hq
    refine s_iload (j := 6) dX10_needs_55 rfl ?_
    refine s_iload (j := 1) dX10_needs_57 rfl ?_
    refine s_icmp_ge (tgt := 179) dX10_needs_59 rfl (fun hc1 => ?_) (fun hc1 => ?_)
    · have h := ifp hc1 h
      refine s_iload (j := 2) dX10_needs_179 rfl ?_
      refine s_if_ne (tgt := 189) dX10_needs_181 rfl (fun hc2 => ?_) (fun hc2 => ?_)
      · have h := ifp hc2 h
        refine s_iload (j := 2) dX10_needs_189 rfl ?_
        refine s_iconst dX10_needs_191 (cin rfl) ?_
        refine s_icmp_ne (tgt := 200) dX10_needs_192 rfl (fun hc3 => ?_) (fun hc3 => ?_)
        · have h := ifp hc3 h
          refine s_iload (j := 5) dX10_needs_200 rfl ?_
          have h := Option.some.inj h
          subst h
          exact s_ireturn dX10_needs_202 rfl hq
        · have h := ifn hc3 h
          refine s_iload (j := 4) dX10_needs_195 rfl ?_
          refine s_goto (tgt := 202) dX10_needs_197 rfl ?_
          have h := Option.some.inj h
          subst h
          exact s_ireturn dX10_needs_202 rfl hq
      · have h := ifn hc2 h
        refine s_iload (j := 3) dX10_needs_184 rfl ?_
        refine s_goto (tgt := 202) dX10_needs_186 rfl ?_
        have h := Option.some.inj h
        subst h
        exact s_ireturn dX10_needs_202 rfl hq
    · have h := ifn hc1 h
      refine s_aload_n (j := 0) dX10_needs_62 rfl rfl ?_
      refine s_aload_n (j := 0) dX10_needs_63 rfl rfl ?_
      refine s_iconst dX10_needs_64 (cin rfl) ?_
      obtain ⟨r4, hv5, h⟩ := bnd h
      refine s_callV (As := [vI 5]) (rest := [vR o]) (r := (some (vI r4))) (F' := F) dX10_needs_65 (clX10_181 (Nat.le_of_ble_eq_true rfl) (Nat.le_of_ble_eq_true rfl)) ho rfl ⟨_, _, _, rfl, ho, hv5, rfl, rfl⟩ rfl (Nat.le_of_ble_eq_true rfl) ?_
      obtain ⟨q6, hv7, h⟩ := bnd h
      refine s_callV (As := [vI r4]) (rest := []) (r := (some (vI q6.1))) (F' := q6.2) dX10_needs_68 (clX10_387 (Nat.le_of_ble_eq_true rfl) (Nat.le_of_ble_eq_true rfl)) ho rfl ⟨_, _, _, rfl, ho, hv7, rfl, rfl⟩ rfl (Nat.le_of_ble_eq_true rfl) ?_
      refine s_istore (ls' := [(12, vI q6.1), (0, vR o), (6, vI x6), (7, vI x7), (8, vI x8), (9, vI x9), (10, vI x10), (11, vI x11)]) dX10_needs_71 (Nat.le_of_ble_eq_true rfl) rfl ?_
      refine s_aload_n (j := 1) dX10_needs_73 rfl rfl ?_
      refine s_aload_n (j := 1) dX10_needs_74 rfl rfl ?_
      refine s_iconst dX10_needs_75 (cin rfl) ?_
      obtain ⟨r8, hv9, h⟩ := bnd h
      refine s_callV (As := [vI 0]) (rest := [vR o]) (r := (some (vI r8))) (F' := q6.2) dX10_needs_76 (clX10_181 (Nat.le_of_ble_eq_true rfl) (Nat.le_of_ble_eq_true rfl)) ho rfl ⟨_, _, _, rfl, ho, hv9, rfl, rfl⟩ rfl (Nat.le_of_ble_eq_true rfl) ?_
      obtain ⟨q10, hv11, h⟩ := bnd h
      refine s_callV (As := [vI r8]) (rest := []) (r := (some (vI q10.1))) (F' := q10.2) dX10_needs_79 (clX10_387 (Nat.le_of_ble_eq_true rfl) (Nat.le_of_ble_eq_true rfl)) ho rfl ⟨_, _, _, rfl, ho, hv11, rfl, rfl⟩ rfl (Nat.le_of_ble_eq_true rfl) ?_
      refine s_istore dX10_needs_82 (Nat.le_of_ble_eq_true rfl) rfl ?_
      refine s_iload (j := 0) dX10_needs_84 rfl ?_
      refine s_aload_n (j := 2) dX10_needs_86 rfl rfl ?_
      refine s_iconst dX10_needs_87 (cin rfl) ?_
      obtain ⟨q12, hv13, h⟩ := bnd h
      refine s_callV (As := [vI 3]) (rest := [vI q10.1]) (r := (some (vI q12.1))) (F' := q12.2) dX10_needs_88 (clX10_387 (Nat.le_of_ble_eq_true rfl) (Nat.le_of_ble_eq_true rfl)) ho rfl ⟨_, _, _, rfl, ho, hv13, rfl, rfl⟩ rfl (Nat.le_of_ble_eq_true rfl) ?_
      refine s_iadd dX10_needs_91 ?_
      refine s_iconst dX10_needs_92 (cin rfl) ?_
      refine s_iadd dX10_needs_93 ?_
      refine s_istore (ls' := [(14, vI (xw ((xw (q10.1 + q12.1)) + 1))), (13, vI q10.1), (12, vI q6.1), (0, vR o), (6, vI x6), (7, vI x7), (8, vI x8), (9, vI x9), (10, vI x10), (11, vI x11)]) dX10_needs_94 (Nat.le_of_ble_eq_true rfl) rfl ?_
      refine s_aload_n (j := 3) dX10_needs_96 rfl rfl ?_
      refine s_iload (j := 2) dX10_needs_97 rfl ?_
      refine s_iload (j := 1) dX10_needs_99 rfl ?_
      refine s_iload (j := 0) dX10_needs_101 rfl ?_
      refine s_aload_n (j := 3) dX10_needs_103 rfl rfl ?_
      refine s_iconst dX10_needs_104 (cin rfl) ?_
      obtain ⟨r14, hv15, h⟩ := bnd h
      refine s_callV (As := [vI 0]) (rest := [vI (xw ((xw (q10.1 + q12.1)) + 1)), vI q10.1, vI q6.1, vR o]) (r := (some (vI r14))) (F' := q12.2) dX10_needs_105 (clX10_181 (Nat.le_of_ble_eq_true rfl) (Nat.le_of_ble_eq_true rfl)) ho rfl ⟨_, _, _, rfl, ho, hv15, rfl, rfl⟩ rfl (Nat.le_of_ble_eq_true rfl) ?_
      refine s_icmp_le (tgt := 119) dX10_needs_108 rfl (fun hc16 => ?_) (fun hc16 => ?_)
      · have h := ifp hc16 h
        refine s_iload (j := 0) dX10_needs_119 rfl ?_
        exact s_sub (ks := [3, 4, 5, 6, 7, 8, 9]) rfl (fX10_needs_b121_ok (fX10_needs_b55 n) ih o x6 x7 x8 x9 x10 x11 o q6.1 q10.1 (xw ((xw (q10.1 + q12.1)) + 1)) q12.2 _ ho ho h hq)
      · have h := ifn hc16 h
        refine s_aload_n (j := 3) dX10_needs_111 rfl rfl ?_
        refine s_iconst dX10_needs_112 (cin rfl) ?_
        obtain ⟨r17, hv18, h⟩ := bnd h
        refine s_callV (As := [vI 0]) (rest := [vI q10.1, vI q6.1, vR o]) (r := (some (vI r17))) (F' := q12.2) dX10_needs_113 (clX10_181 (Nat.le_of_ble_eq_true rfl) (Nat.le_of_ble_eq_true rfl)) ho rfl ⟨_, _, _, rfl, ho, hv18, rfl, rfl⟩ rfl (Nat.le_of_ble_eq_true rfl) ?_
        refine s_goto (tgt := 121) dX10_needs_116 rfl ?_
        exact s_sub (ks := [3, 4, 5, 6, 7, 8, 9]) rfl (fX10_needs_b121_ok (fX10_needs_b55 n) ih o x6 x7 x8 x9 x10 x11 o q6.1 q10.1 r17 q12.2 _ ho ho h hq)
theorem fX10_needs_ok {Qr : Option PV → Mem → Prop} : ∀ (o : Nat) (x1 : Int) (x2 : Int) (x3 : Int) (x4 : Int) (x5 : Int) (x6 : Int) (x7 : Int) (F : Mem) (res : (Int × Mem)) (ho : isK o 10), fX10_needs o x1 x2 x3 x4 x5 x6 x7 F = some res → Qr (some (vI res.1)) res.2 → PR cX10_needs (zX10_needs Qr) 0 [(0, vR o), (1, vI x1), (2, vI x2), (3, vI x3), (4, vI x4), (5, vI x5), (6, vI x6), (7, vI x7)] [] F := by
  intro o x1 x2 x3 x4 x5 x6 x7 F res ho h hq
  refine s_iload (j := 6) dX10_needs_0 rfl ?_
  refine s_iconst dX10_needs_2 (cin rfl) ?_
  refine s_bipush dX10_needs_3 rfl (cin rfl) ?_
  refine s_callS (As := [vI x6, vI 1, vI 9]) (rest := []) (r := (some (vI (fX10_isIn x6 1 9)))) (F' := F) dX10_needs_5 (clX10_115 (Nat.le_of_ble_eq_true rfl) (Nat.le_of_ble_eq_true rfl)) rfl ⟨_, _, _, _, rfl, rfl, rfl, rfl⟩ rfl (Nat.le_of_ble_eq_true rfl) ?_
  refine s_if_eq (tgt := 34) dX10_needs_8 rfl (fun hc1 => ?_) (fun hc1 => ?_)
  · have h := ifp hc1 h
    refine s_bipush dX10_needs_34 rfl (cin rfl) ?_
    have h := Option.some.inj h
    subst h
    exact s_ireturn dX10_needs_36 rfl hq
  · have h := ifn hc1 h
    refine s_iload (j := 7) dX10_needs_11 rfl ?_
    refine s_iconst dX10_needs_13 (cin rfl) ?_
    refine s_iconst dX10_needs_14 (cin rfl) ?_
    refine s_callS (As := [vI x7, vI 0, vI 2]) (rest := []) (r := (some (vI (fX10_isIn x7 0 2)))) (F' := F) dX10_needs_15 (clX10_115 (Nat.le_of_ble_eq_true rfl) (Nat.le_of_ble_eq_true rfl)) rfl ⟨_, _, _, _, rfl, rfl, rfl, rfl⟩ rfl (Nat.le_of_ble_eq_true rfl) ?_
    refine s_if_eq (tgt := 34) dX10_needs_18 rfl (fun hc2 => ?_) (fun hc2 => ?_)
    · have h := ifp hc2 h
      refine s_bipush dX10_needs_34 rfl (cin rfl) ?_
      have h := Option.some.inj h
      subst h
      exact s_ireturn dX10_needs_36 rfl hq
    · have h := ifn hc2 h
      refine s_aload_n (j := 0) dX10_needs_21 rfl rfl ?_
      refine s_iload_n (j := 1) dX10_needs_22 rfl rfl ?_
      refine s_iload_n (j := 2) dX10_needs_23 rfl rfl ?_
      refine s_iload_n (j := 3) dX10_needs_24 rfl rfl ?_
      refine s_iload (j := 4) dX10_needs_25 rfl ?_
      refine s_iconst dX10_needs_27 (cin rfl) ?_
      obtain ⟨q3, hv4, h⟩ := bnd h
      refine s_callV (As := [vI x1, vI x2, vI x3, vI x4, vI 1]) (rest := []) (r := (some (vI q3.1))) (F' := q3.2) dX10_needs_28 (clX10_355 (Nat.le_of_ble_eq_true rfl) (Nat.le_of_ble_eq_true rfl)) ho rfl ⟨_, _, _, _, _, _, _, rfl, ho, hv4, rfl, rfl⟩ rfl (Nat.le_of_ble_eq_true rfl) ?_
      refine s_if_ne (tgt := 37) dX10_needs_31 rfl (fun hc5 => ?_) (fun hc5 => ?_)
      · have h := ifp hc5 h
        refine s_aload_n (j := 0) dX10_needs_37 rfl rfl ?_
        refine s_iload (j := 5) dX10_needs_38 rfl ?_
        refine s_putI dX10_needs_40 flX10_383 fpX10_44 ho ?_
        refine s_iconst dX10_needs_43 (cin rfl) ?_
        refine s_istore (ls' := [(8, vI 0), (0, vR o), (1, vI x1), (2, vI x2), (3, vI x3), (4, vI x4), (5, vI x5), (6, vI x6), (7, vI x7)]) dX10_needs_44 (Nat.le_of_ble_eq_true rfl) rfl ?_
        refine s_iconst dX10_needs_46 (cin rfl) ?_
        refine s_istore dX10_needs_47 (Nat.le_of_ble_eq_true rfl) rfl ?_
        refine s_iconst dX10_needs_49 (cin rfl) ?_
        refine s_istore (ls' := [(10, vI 0), (9, vI 0), (8, vI 0), (0, vR o), (1, vI x1), (2, vI x2), (3, vI x3), (4, vI x4), (5, vI x5), (6, vI x6), (7, vI x7)]) dX10_needs_50 (Nat.le_of_ble_eq_true rfl) rfl ?_
        refine s_iconst dX10_needs_52 (cin rfl) ?_
        refine s_istore dX10_needs_53 (Nat.le_of_ble_eq_true rfl) rfl ?_
        exact s_sub (ks := [4, 10, 11, 3, 2, 1, 0]) rfl (fX10_needs_b55_ok FU o x6 x7 0 0 0 0 (mset q3.2 o 44 x5) _ ho h hq)
      · have h := ifn hc5 h
        refine s_bipush dX10_needs_34 rfl (cin rfl) ?_
        have h := Option.some.inj h
        subst h
        exact s_ireturn dX10_needs_36 rfl hq
def gX10_needs : XG := fun As F r F' => ∃ o : Nat, ∃ x1 : Int, ∃ x2 : Int, ∃ x3 : Int, ∃ x4 : Int, ∃ x5 : Int, ∃ x6 : Int, ∃ x7 : Int, ∃ res : (Int × Mem), As = [vR o, vI x1, vI x2, vI x3, vI x4, vI x5, vI x6, vI x7] ∧ isK o 10 ∧ fX10_needs o x1 x2 x3 x4 x5 x6 x7 F = some res ∧ r = some (vI res.1) ∧ F' = res.2
theorem ctX10_needs : xCT yX10_needs cX10_needs 16 (some FieldType.int) 7 159 gX10_needs := xmet (by decide +kernel) (fun As F r F' hg => by obtain ⟨o, x1, x2, x3, x4, x5, x6, x7, res, rfl, ho, h, rfl, rfl⟩ := hg; exact Nat.le_of_ble_eq_true rfl) (fun As F r F' hg => by obtain ⟨o, x1, x2, x3, x4, x5, x6, x7, res, rfl, ho, h, rfl, rfl⟩ := hg; exact fX10_needs_ok o x1 x2 x3 x4 x5 x6 x7 _ _ ho h ⟨rfl, rfl⟩)
theorem mcX10_needs : Cond.code yX10_needs cX10_needs 16 (some FieldType.int) ∈ xw_T ∧ Cond.initialized yX10_needs.cls ∈ xw_T ∧ Cond.instanceMethod yX10_needs ∈ xw_T ∧ Cond.selects yX10_needs.cls yX10_needs yX10_needs ∈ xw_T := ⟨(xinT 1845 (by decide +kernel) (by decide +kernel)), (xinT 127 (by decide +kernel) (by decide +kernel)), (xinT 1843 (by decide +kernel) (by decide +kernel)), (xinT 1844 (by decide +kernel) (by decide +kernel))⟩
theorem dX10_yieldOf_0 : decode cX10_yieldOf 0 = .ok (.aload_n 0, 1) := by decide +kernel
theorem dX10_yieldOf_1 : decode cX10_yieldOf 1 = .ok (.iconst 1, 1) := by decide +kernel
theorem dX10_yieldOf_2 : decode cX10_yieldOf 2 = .ok (.invokevirtual 349, 3) := by decide +kernel
theorem dX10_yieldOf_5 : decode cX10_yieldOf 5 = .ok (.aload_n 0, 1) := by decide +kernel
theorem dX10_yieldOf_6 : decode cX10_yieldOf 6 = .ok (.invokevirtual 352, 3) := by decide +kernel
theorem dX10_yieldOf_9 : decode cX10_yieldOf 9 = .ok (.istore_n 1, 1) := by decide +kernel
theorem dX10_yieldOf_10 : decode cX10_yieldOf 10 = .ok (.iconst 0, 1) := by decide +kernel
theorem dX10_yieldOf_11 : decode cX10_yieldOf 11 = .ok (.istore_n 2, 1) := by decide +kernel
theorem dX10_yieldOf_12 : decode cX10_yieldOf 12 = .ok (.iload_n 2, 1) := by decide +kernel
theorem dX10_yieldOf_13 : decode cX10_yieldOf 13 = .ok (.aload_n 0, 1) := by decide +kernel
theorem dX10_yieldOf_14 : decode cX10_yieldOf 14 = .ok (.iconst 5, 1) := by decide +kernel
theorem dX10_yieldOf_15 : decode cX10_yieldOf 15 = .ok (.invokevirtual 181, 3) := by decide +kernel
theorem dX10_yieldOf_18 : decode cX10_yieldOf 18 = .ok (.if_icmp .ge 36, 3) := by decide +kernel
theorem dX10_yieldOf_21 : decode cX10_yieldOf 21 = .ok (.iload_n 1, 1) := by decide +kernel
theorem dX10_yieldOf_22 : decode cX10_yieldOf 22 = .ok (.aload_n 0, 1) := by decide +kernel
theorem dX10_yieldOf_23 : decode cX10_yieldOf 23 = .ok (.iload_n 2, 1) := by decide +kernel
theorem dX10_yieldOf_24 : decode cX10_yieldOf 24 = .ok (.invokevirtual 202, 3) := by decide +kernel
theorem dX10_yieldOf_27 : decode cX10_yieldOf 27 = .ok (.ifCond .ne 18, 3) := by decide +kernel
theorem dX10_yieldOf_30 : decode cX10_yieldOf 30 = .ok (.aload_n 0, 1) := by decide +kernel
theorem dX10_yieldOf_31 : decode cX10_yieldOf 31 = .ok (.iload_n 2, 1) := by decide +kernel
theorem dX10_yieldOf_32 : decode cX10_yieldOf 32 = .ok (.iconst 2, 1) := by decide +kernel
theorem dX10_yieldOf_33 : decode cX10_yieldOf 33 = .ok (.invokevirtual 175, 3) := by decide +kernel
theorem dX10_yieldOf_36 : decode cX10_yieldOf 36 = .ok (.aload_n 0, 1) := by decide +kernel
theorem dX10_yieldOf_37 : decode cX10_yieldOf 37 = .ok (.iconst 0, 1) := by decide +kernel
theorem dX10_yieldOf_38 : decode cX10_yieldOf 38 = .ok (.invokevirtual 181, 3) := by decide +kernel
theorem dX10_yieldOf_41 : decode cX10_yieldOf 41 = .ok (.imul, 1) := by decide +kernel
theorem dX10_yieldOf_42 : decode cX10_yieldOf 42 = .ok (.goto 4, 3) := by decide +kernel
theorem dX10_yieldOf_45 : decode cX10_yieldOf 45 = .ok (.iconst 0, 1) := by decide +kernel
theorem dX10_yieldOf_46 : decode cX10_yieldOf 46 = .ok (.iadd, 1) := by decide +kernel
theorem dX10_yieldOf_47 : decode cX10_yieldOf 47 = .ok (.istore_n 1, 1) := by decide +kernel
theorem dX10_yieldOf_48 : decode cX10_yieldOf 48 = .ok (.iinc 2 1, 3) := by decide +kernel
theorem dX10_yieldOf_51 : decode cX10_yieldOf 51 = .ok (.goto (-39), 3) := by decide +kernel
theorem dX10_yieldOf_54 : decode cX10_yieldOf 54 = .ok (.iload_n 1, 1) := by decide +kernel
theorem dX10_yieldOf_55 : decode cX10_yieldOf 55 = .ok (.ireturn, 1) := by decide +kernel
def zX10_yieldOf (Qr : Option PV → Mem → Prop) : XZ := (RX10, 5, 121, 3, some FieldType.int, Qr)
noncomputable def fX10_yieldOf_b12 : Nat → Nat → Int → Int → Mem → Option (Int × Mem)
  | 0, _, _, _, _ => none
  | n + 1, o, x1, x2, F =>
    (fX10_of o 5 F).bind fun r1 =>
    if r1 ≤ x2 then
      some (x1, F)
    else
      (fX10_kindOf o x2 F).bind fun r4 =>
      if r4 ≠ 0 then
        fX10_yieldOf_b12 n o (xw (x1 + 0)) (xw (x2 + 1)) F
      else
        (fX10_houseOf o x2 2 F).bind fun r7 =>
        (fX10_of o 0 F).bind fun r9 =>
        fX10_yieldOf_b12 n o (xw (x1 + (xw (r7 * r9)))) (xw (x2 + 1)) F
noncomputable def fX10_yieldOf (o : Nat) (F : Mem) : Option (Int × Mem) :=
  (fX10_solves o 1 F).bind fun q1 =>
  (fX10_gain o q1).bind fun r3 =>
  fX10_yieldOf_b12 FU o r3 0 q1
theorem fX10_yieldOf_b12_ok {Qr : Option PV → Mem → Prop}  : ∀ (n : Nat) (o : Nat) (x1 : Int) (x2 : Int) (F : Mem) (res : (Int × Mem)) (ho : isK o 10), fX10_yieldOf_b12 n o x1 x2 F = some res → Qr (some (vI res.1)) res.2 → PR cX10_yieldOf (zX10_yieldOf Qr) 12 [(0, vR o), (1, vI x1), (2, vI x2)] [] F := by
  intro n
  induction n with
  | zero => intro o x1 x2 F res ho h hq; exact nomatch (show (none : Option _) = some _ from h)
  | succ n ih =>
    intro o x1 x2 F res ho h hq
    refine s_iload_n (j := 2) dX10_yieldOf_12 rfl rfl ?_
    refine s_aload_n (j := 0) dX10_yieldOf_13 rfl rfl ?_
    refine s_iconst dX10_yieldOf_14 (cin rfl) ?_
    obtain ⟨r1, hv2, h⟩ := bnd h
    refine s_callV (As := [vI 5]) (rest := [vI x2]) (r := (some (vI r1))) (F' := F) dX10_yieldOf_15 (clX10_181 (Nat.le_of_ble_eq_true rfl) (Nat.le_of_ble_eq_true rfl)) ho rfl ⟨_, _, _, rfl, ho, hv2, rfl, rfl⟩ rfl (Nat.le_of_ble_eq_true rfl) ?_
    refine s_icmp_ge (tgt := 54) dX10_yieldOf_18 rfl (fun hc3 => ?_) (fun hc3 => ?_)
    · have h := ifp hc3 h
      refine s_iload_n (j := 1) dX10_yieldOf_54 rfl rfl ?_
      have h := Option.some.inj h
      subst h
      exact s_ireturn dX10_yieldOf_55 rfl hq
    · have h := ifn hc3 h
      refine s_iload_n (j := 1) dX10_yieldOf_21 rfl rfl ?_
      refine s_aload_n (j := 0) dX10_yieldOf_22 rfl rfl ?_
      refine s_iload_n (j := 2) dX10_yieldOf_23 rfl rfl ?_
      obtain ⟨r4, hv5, h⟩ := bnd h
      refine s_callV (As := [vI x2]) (rest := [vI x1]) (r := (some (vI r4))) (F' := F) dX10_yieldOf_24 (clX10_202 (Nat.le_of_ble_eq_true rfl) (Nat.le_of_ble_eq_true rfl)) ho rfl ⟨_, _, _, rfl, ho, hv5, rfl, rfl⟩ rfl (Nat.le_of_ble_eq_true rfl) ?_
      refine s_if_ne (tgt := 45) dX10_yieldOf_27 rfl (fun hc6 => ?_) (fun hc6 => ?_)
      · have h := ifp hc6 h
        refine s_iconst dX10_yieldOf_45 (cin rfl) ?_
        refine s_iadd dX10_yieldOf_46 ?_
        refine s_istore_n (ls' := [(1, vI (xw (x1 + 0))), (0, vR o), (2, vI x2)]) dX10_yieldOf_47 rfl (Nat.le_of_ble_eq_true rfl) rfl ?_
        refine s_iinc (j := 2) dX10_yieldOf_48 rfl (Nat.le_of_ble_eq_true rfl) rfl ?_
        refine s_goto (tgt := 12) dX10_yieldOf_51 rfl ?_
        exact s_sub (ks := [2, 1, 0]) rfl (ih o (xw (x1 + 0)) (xw (x2 + 1)) F _ ho h hq)
      · have h := ifn hc6 h
        refine s_aload_n (j := 0) dX10_yieldOf_30 rfl rfl ?_
        refine s_iload_n (j := 2) dX10_yieldOf_31 rfl rfl ?_
        refine s_iconst dX10_yieldOf_32 (cin rfl) ?_
        obtain ⟨r7, hv8, h⟩ := bnd h
        refine s_callV (As := [vI x2, vI 2]) (rest := [vI x1]) (r := (some (vI r7))) (F' := F) dX10_yieldOf_33 (clX10_175 (Nat.le_of_ble_eq_true rfl) (Nat.le_of_ble_eq_true rfl)) ho rfl ⟨_, _, _, _, rfl, ho, hv8, rfl, rfl⟩ rfl (Nat.le_of_ble_eq_true rfl) ?_
        refine s_aload_n (j := 0) dX10_yieldOf_36 rfl rfl ?_
        refine s_iconst dX10_yieldOf_37 (cin rfl) ?_
        obtain ⟨r9, hv10, h⟩ := bnd h
        refine s_callV (As := [vI 0]) (rest := [vI r7, vI x1]) (r := (some (vI r9))) (F' := F) dX10_yieldOf_38 (clX10_181 (Nat.le_of_ble_eq_true rfl) (Nat.le_of_ble_eq_true rfl)) ho rfl ⟨_, _, _, rfl, ho, hv10, rfl, rfl⟩ rfl (Nat.le_of_ble_eq_true rfl) ?_
        refine s_imul dX10_yieldOf_41 ?_
        refine s_goto (tgt := 46) dX10_yieldOf_42 rfl ?_
        refine s_iadd dX10_yieldOf_46 ?_
        refine s_istore_n (ls' := [(1, vI (xw (x1 + (xw (r7 * r9))))), (0, vR o), (2, vI x2)]) dX10_yieldOf_47 rfl (Nat.le_of_ble_eq_true rfl) rfl ?_
        refine s_iinc (j := 2) dX10_yieldOf_48 rfl (Nat.le_of_ble_eq_true rfl) rfl ?_
        refine s_goto (tgt := 12) dX10_yieldOf_51 rfl ?_
        exact s_sub (ks := [2, 1, 0]) rfl (ih o (xw (x1 + (xw (r7 * r9)))) (xw (x2 + 1)) F _ ho h hq)
theorem fX10_yieldOf_ok {Qr : Option PV → Mem → Prop} : ∀ (o : Nat) (F : Mem) (res : (Int × Mem)) (ho : isK o 10), fX10_yieldOf o F = some res → Qr (some (vI res.1)) res.2 → PR cX10_yieldOf (zX10_yieldOf Qr) 0 [(0, vR o)] [] F := by
  intro o F res ho h hq
  refine s_aload_n (j := 0) dX10_yieldOf_0 rfl rfl ?_
  refine s_iconst dX10_yieldOf_1 (cin rfl) ?_
  obtain ⟨q1, hv2, h⟩ := bnd h
  refine s_callV (As := [vI 1]) (rest := []) (r := none) (F' := q1) dX10_yieldOf_2 (clX10_349 (Nat.le_of_ble_eq_true rfl) (Nat.le_of_ble_eq_true rfl)) ho rfl ⟨_, _, _, rfl, ho, hv2, rfl, rfl⟩ rfl (Nat.le_of_ble_eq_true rfl) ?_
  refine s_aload_n (j := 0) dX10_yieldOf_5 rfl rfl ?_
  obtain ⟨r3, hv4, h⟩ := bnd h
  refine s_callV (As := []) (rest := []) (r := (some (vI r3))) (F' := q1) dX10_yieldOf_6 (clX10_352 (Nat.le_of_ble_eq_true rfl) (Nat.le_of_ble_eq_true rfl)) ho rfl ⟨_, _, rfl, ho, hv4, rfl, rfl⟩ rfl (Nat.le_of_ble_eq_true rfl) ?_
  refine s_istore_n (ls' := [(1, vI r3), (0, vR o)]) dX10_yieldOf_9 rfl (Nat.le_of_ble_eq_true rfl) rfl ?_
  refine s_iconst dX10_yieldOf_10 (cin rfl) ?_
  refine s_istore_n dX10_yieldOf_11 rfl (Nat.le_of_ble_eq_true rfl) rfl ?_
  exact s_sub (ks := [2, 1, 0]) rfl (fX10_yieldOf_b12_ok FU o r3 0 q1 _ ho h hq)
def gX10_yieldOf : XG := fun As F r F' => ∃ o : Nat, ∃ res : (Int × Mem), As = [vR o] ∧ isK o 10 ∧ fX10_yieldOf o F = some res ∧ r = some (vI res.1) ∧ F' = res.2
theorem ctX10_yieldOf : xCT yX10_yieldOf cX10_yieldOf 3 (some FieldType.int) 5 121 gX10_yieldOf := xmet (by decide +kernel) (fun As F r F' hg => by obtain ⟨o, res, rfl, ho, h, rfl, rfl⟩ := hg; exact Nat.le_of_ble_eq_true rfl) (fun As F r F' hg => by obtain ⟨o, res, rfl, ho, h, rfl, rfl⟩ := hg; exact fX10_yieldOf_ok o _ _ ho h ⟨rfl, rfl⟩)
theorem mcX10_yieldOf : Cond.code yX10_yieldOf cX10_yieldOf 3 (some FieldType.int) ∈ xw_T ∧ Cond.initialized yX10_yieldOf.cls ∈ xw_T ∧ Cond.instanceMethod yX10_yieldOf ∈ xw_T ∧ Cond.selects yX10_yieldOf.cls yX10_yieldOf yX10_yieldOf ∈ xw_T := ⟨(xinT 1858 (by decide +kernel) (by decide +kernel)), (xinT 127 (by decide +kernel) (by decide +kernel)), (xinT 1857 (by decide +kernel) (by decide +kernel)), (xinT 102 (by decide +kernel) (by decide +kernel))⟩
theorem clX10_390 {fr lo : Nat} (h1 : 5 + 1 ≤ fr) (h2 : 8 + (3 + 11) + 121 ≤ lo) : xCall RX10 fr lo 0 390 10 0 gX10_yieldOf := ⟨_, _, _, _, _, _, ctX10_yieldOf, h1, h2, mcX10_yieldOf.1, (xinT 1855 (by decide +kernel) (by decide +kernel)), mcX10_yieldOf.2.1, ⟨by decide +kernel, by decide +kernel, by decide +kernel⟩, by rw [if_pos rfl]; exact ⟨mcX10_yieldOf.2.2.1, mcX10_yieldOf.2.2.2, _, _, rfl⟩⟩
theorem dX10_spoiled_0 : decode cX10_spoiled 0 = .ok (.iconst 0, 1) := by decide +kernel
theorem dX10_spoiled_1 : decode cX10_spoiled 1 = .ok (.istore_n 1, 1) := by decide +kernel
theorem dX10_spoiled_2 : decode cX10_spoiled 2 = .ok (.iconst 0, 1) := by decide +kernel
theorem dX10_spoiled_3 : decode cX10_spoiled 3 = .ok (.istore_n 2, 1) := by decide +kernel
theorem dX10_spoiled_4 : decode cX10_spoiled 4 = .ok (.iload_n 2, 1) := by decide +kernel
theorem dX10_spoiled_5 : decode cX10_spoiled 5 = .ok (.aload_n 0, 1) := by decide +kernel
theorem dX10_spoiled_6 : decode cX10_spoiled 6 = .ok (.iconst 0, 1) := by decide +kernel
theorem dX10_spoiled_7 : decode cX10_spoiled 7 = .ok (.invokevirtual 181, 3) := by decide +kernel
theorem dX10_spoiled_10 : decode cX10_spoiled 10 = .ok (.if_icmp .ge 95, 3) := by decide +kernel
theorem dX10_spoiled_13 : decode cX10_spoiled 13 = .ok (.aload_n 0, 1) := by decide +kernel
theorem dX10_spoiled_14 : decode cX10_spoiled 14 = .ok (.iload_n 2, 1) := by decide +kernel
theorem dX10_spoiled_15 : decode cX10_spoiled 15 = .ok (.invokevirtual 359, 3) := by decide +kernel
theorem dX10_spoiled_18 : decode cX10_spoiled 18 = .ok (.iconst 0, 1) := by decide +kernel
theorem dX10_spoiled_19 : decode cX10_spoiled 19 = .ok (.istore_n 3, 1) := by decide +kernel
theorem dX10_spoiled_20 : decode cX10_spoiled 20 = .ok (.iload_n 3, 1) := by decide +kernel
theorem dX10_spoiled_21 : decode cX10_spoiled 21 = .ok (.aload_n 0, 1) := by decide +kernel
theorem dX10_spoiled_22 : decode cX10_spoiled 22 = .ok (.iconst 5, 1) := by decide +kernel
theorem dX10_spoiled_23 : decode cX10_spoiled 23 = .ok (.invokevirtual 181, 3) := by decide +kernel
theorem dX10_spoiled_26 : decode cX10_spoiled 26 = .ok (.if_icmp .ge 73, 3) := by decide +kernel
theorem dX10_spoiled_29 : decode cX10_spoiled 29 = .ok (.aload_n 0, 1) := by decide +kernel
theorem dX10_spoiled_30 : decode cX10_spoiled 30 = .ok (.getfield 333, 3) := by decide +kernel
theorem dX10_spoiled_33 : decode cX10_spoiled 33 = .ok (.iload_n 3, 1) := by decide +kernel
theorem dX10_spoiled_34 : decode cX10_spoiled 34 = .ok (.if_icmp .ne 30, 3) := by decide +kernel
theorem dX10_spoiled_37 : decode cX10_spoiled 37 = .ok (.aload_n 0, 1) := by decide +kernel
theorem dX10_spoiled_38 : decode cX10_spoiled 38 = .ok (.iload_n 3, 1) := by decide +kernel
theorem dX10_spoiled_39 : decode cX10_spoiled 39 = .ok (.iconst 1, 1) := by decide +kernel
theorem dX10_spoiled_40 : decode cX10_spoiled 40 = .ok (.iload_n 2, 1) := by decide +kernel
theorem dX10_spoiled_41 : decode cX10_spoiled 41 = .ok (.invokevirtual 215, 3) := by decide +kernel
theorem dX10_spoiled_44 : decode cX10_spoiled 44 = .ok (.ifCond .eq 20, 3) := by decide +kernel
theorem dX10_spoiled_47 : decode cX10_spoiled 47 = .ok (.aload_n 0, 1) := by decide +kernel
theorem dX10_spoiled_48 : decode cX10_spoiled 48 = .ok (.iload_n 3, 1) := by decide +kernel
theorem dX10_spoiled_49 : decode cX10_spoiled 49 = .ok (.aload_n 0, 1) := by decide +kernel
theorem dX10_spoiled_50 : decode cX10_spoiled 50 = .ok (.getfield 303, 3) := by decide +kernel
theorem dX10_spoiled_53 : decode cX10_spoiled 53 = .ok (.iload_n 2, 1) := by decide +kernel
theorem dX10_spoiled_54 : decode cX10_spoiled 54 = .ok (.invokevirtual 279, 3) := by decide +kernel
theorem dX10_spoiled_57 : decode cX10_spoiled 57 = .ok (.ifCond .eq 7, 3) := by decide +kernel
theorem dX10_spoiled_60 : decode cX10_spoiled 60 = .ok (.iconst 1, 1) := by decide +kernel
theorem dX10_spoiled_61 : decode cX10_spoiled 61 = .ok (.goto 4, 3) := by decide +kernel
theorem dX10_spoiled_64 : decode cX10_spoiled 64 = .ok (.iconst 0, 1) := by decide +kernel
theorem dX10_spoiled_65 : decode cX10_spoiled 65 = .ok (.istore 4, 2) := by decide +kernel
theorem dX10_spoiled_67 : decode cX10_spoiled 67 = .ok (.iload_n 1, 1) := by decide +kernel
theorem dX10_spoiled_68 : decode cX10_spoiled 68 = .ok (.aload_n 0, 1) := by decide +kernel
theorem dX10_spoiled_69 : decode cX10_spoiled 69 = .ok (.iload_n 3, 1) := by decide +kernel
theorem dX10_spoiled_70 : decode cX10_spoiled 70 = .ok (.invokevirtual 202, 3) := by decide +kernel
theorem dX10_spoiled_73 : decode cX10_spoiled 73 = .ok (.ifCond .eq 8, 3) := by decide +kernel
theorem dX10_spoiled_76 : decode cX10_spoiled 76 = .ok (.iload 4, 2) := by decide +kernel
theorem dX10_spoiled_78 : decode cX10_spoiled 78 = .ok (.ifCond .eq 7, 3) := by decide +kernel
theorem dX10_spoiled_81 : decode cX10_spoiled 81 = .ok (.iconst 0, 1) := by decide +kernel
theorem dX10_spoiled_82 : decode cX10_spoiled 82 = .ok (.goto 9, 3) := by decide +kernel
theorem dX10_spoiled_85 : decode cX10_spoiled 85 = .ok (.aload_n 0, 1) := by decide +kernel
theorem dX10_spoiled_86 : decode cX10_spoiled 86 = .ok (.iload_n 3, 1) := by decide +kernel
theorem dX10_spoiled_87 : decode cX10_spoiled 87 = .ok (.iconst 3, 1) := by decide +kernel
theorem dX10_spoiled_88 : decode cX10_spoiled 88 = .ok (.invokevirtual 175, 3) := by decide +kernel
theorem dX10_spoiled_91 : decode cX10_spoiled 91 = .ok (.iadd, 1) := by decide +kernel
theorem dX10_spoiled_92 : decode cX10_spoiled 92 = .ok (.istore_n 1, 1) := by decide +kernel
theorem dX10_spoiled_93 : decode cX10_spoiled 93 = .ok (.iinc 3 1, 3) := by decide +kernel
theorem dX10_spoiled_96 : decode cX10_spoiled 96 = .ok (.goto (-76), 3) := by decide +kernel
theorem dX10_spoiled_99 : decode cX10_spoiled 99 = .ok (.iinc 2 1, 3) := by decide +kernel
theorem dX10_spoiled_102 : decode cX10_spoiled 102 = .ok (.goto (-98), 3) := by decide +kernel
theorem dX10_spoiled_105 : decode cX10_spoiled 105 = .ok (.iload_n 1, 1) := by decide +kernel
theorem dX10_spoiled_106 : decode cX10_spoiled 106 = .ok (.ireturn, 1) := by decide +kernel
def zX10_spoiled (Qr : Option PV → Mem → Prop) : XZ := (RX10, 5, 122, 5, some FieldType.int, Qr)
noncomputable def fX10_spoiled_b65 (k4 : Nat → Int → Int → Mem → Option (Int × Mem)) (k20 : Nat → Int → Int → Int → Mem → Option (Int × Mem)) (o : Nat) (x1 : Int) (x2 : Int) (x3 : Int) (s0 : Int) (F : Mem) : Option (Int × Mem) :=
  (fX10_kindOf o x3 F).bind fun r1 =>
  if r1 = 0 then
    k20 o (xw (x1 + 0)) x2 (xw (x3 + 1)) F
  else
    if s0 = 0 then
      (fX10_houseOf o x3 3 F).bind fun r5 =>
      k20 o (xw (x1 + r5)) x2 (xw (x3 + 1)) F
    else
      k20 o (xw (x1 + 0)) x2 (xw (x3 + 1)) F
noncomputable def fX10_spoiled_b20 (k4 : Nat → Int → Int → Mem → Option (Int × Mem)) : Nat → Nat → Int → Int → Int → Mem → Option (Int × Mem)
  | 0, _, _, _, _, _ => none
  | n + 1, o, x1, x2, x3, F =>
    (fX10_of o 5 F).bind fun r1 =>
    if r1 ≤ x3 then
      k4 o x1 (xw (x2 + 1)) F
    else
      if (F o 38) ≠ x3 then
        fX10_spoiled_b65 k4 (fX10_spoiled_b20 k4 n) o x1 x2 x3 0 F
      else
        (fX10_sees o x3 1 x2 F).bind fun r5 =>
        if r5 = 0 then
          fX10_spoiled_b65 k4 (fX10_spoiled_b20 k4 n) o x1 x2 x3 0 F
        else
          (fX10_may o x3 (F o 26) x2 F).bind fun r8 =>
          if r8 = 0 then
            fX10_spoiled_b65 k4 (fX10_spoiled_b20 k4 n) o x1 x2 x3 0 F
          else
            fX10_spoiled_b65 k4 (fX10_spoiled_b20 k4 n) o x1 x2 x3 1 F
noncomputable def fX10_spoiled_b4 : Nat → Nat → Int → Int → Mem → Option (Int × Mem)
  | 0, _, _, _, _ => none
  | n + 1, o, x1, x2, F =>
    (fX10_of o 0 F).bind fun r1 =>
    if r1 ≤ x2 then
      some (x1, F)
    else
      (fX10_walksTo o x2 F).bind fun q4 =>
      fX10_spoiled_b20 (fX10_spoiled_b4 n) FU o x1 x2 0 q4
noncomputable def fX10_spoiled (o : Nat) (F : Mem) : Option (Int × Mem) :=
  fX10_spoiled_b4 FU o 0 0 F
theorem fX10_spoiled_b65_ok {Qr : Option PV → Mem → Prop}  (k4 : Nat → Int → Int → Mem → Option (Int × Mem)) (k20 : Nat → Int → Int → Int → Mem → Option (Int × Mem)) (hk4 : ∀ (o : Nat) (x1 : Int) (x2 : Int) (F : Mem) (res : (Int × Mem)) (ho : isK o 10), k4 o x1 x2 F = some res → Qr (some (vI res.1)) res.2 → PR cX10_spoiled (zX10_spoiled Qr) 4 [(0, vR o), (1, vI x1), (2, vI x2)] [] F) (hk20 : ∀ (o : Nat) (x1 : Int) (x2 : Int) (x3 : Int) (F : Mem) (res : (Int × Mem)) (ho : isK o 10), k20 o x1 x2 x3 F = some res → Qr (some (vI res.1)) res.2 → PR cX10_spoiled (zX10_spoiled Qr) 20 [(0, vR o), (1, vI x1), (2, vI x2), (3, vI x3)] [] F) : ∀ (o : Nat) (x1 : Int) (x2 : Int) (x3 : Int) (s0 : Int) (F : Mem) (res : (Int × Mem)) (ho : isK o 10), fX10_spoiled_b65 k4 k20 o x1 x2 x3 s0 F = some res → Qr (some (vI res.1)) res.2 → PR cX10_spoiled (zX10_spoiled Qr) 65 [(0, vR o), (1, vI x1), (2, vI x2), (3, vI x3)] [vI s0] F := by
  intro o x1 x2 x3 s0 F res ho h hq
  refine s_istore (ls' := [(4, vI s0), (0, vR o), (1, vI x1), (2, vI x2), (3, vI x3)]) dX10_spoiled_65 (Nat.le_of_ble_eq_true rfl) rfl ?_
  refine s_iload_n (j := 2) dX10_spoiled_67 rfl rfl ?_
  refine s_aload_n (j := 1) dX10_spoiled_68 rfl rfl ?_
  refine s_iload_n (j := 4) dX10_spoiled_69 rfl rfl ?_
  obtain ⟨r1, hv2, h⟩ := bnd h
  refine s_callV (As := [vI x3]) (rest := [vI x1]) (r := (some (vI r1))) (F' := F) dX10_spoiled_70 (clX10_202 (Nat.le_of_ble_eq_true rfl) (Nat.le_of_ble_eq_true rfl)) ho rfl ⟨_, _, _, rfl, ho, hv2, rfl, rfl⟩ rfl (Nat.le_of_ble_eq_true rfl) ?_
  refine s_if_eq (tgt := 81) dX10_spoiled_73 rfl (fun hc3 => ?_) (fun hc3 => ?_)
  · have h := ifp hc3 h
    refine s_iconst dX10_spoiled_81 (cin rfl) ?_
    refine s_goto (tgt := 91) dX10_spoiled_82 rfl ?_
    refine s_iadd dX10_spoiled_91 ?_
    refine s_istore_n (ls' := [(1, vI (xw (x1 + 0))), (4, vI s0), (0, vR o), (2, vI x2), (3, vI x3)]) dX10_spoiled_92 rfl (Nat.le_of_ble_eq_true rfl) rfl ?_
    refine s_iinc (j := 4) dX10_spoiled_93 rfl (Nat.le_of_ble_eq_true rfl) rfl ?_
    refine s_goto (tgt := 20) dX10_spoiled_96 rfl ?_
    exact s_sub (ks := [3, 1, 4, 0]) rfl (hk20 o (xw (x1 + 0)) x2 (xw (x3 + 1)) F _ ho h hq)
  · have h := ifn hc3 h
    refine s_iload (j := 0) dX10_spoiled_76 rfl ?_
    refine s_if_eq (tgt := 85) dX10_spoiled_78 rfl (fun hc4 => ?_) (fun hc4 => ?_)
    · have h := ifp hc4 h
      refine s_aload_n (j := 1) dX10_spoiled_85 rfl rfl ?_
      refine s_iload_n (j := 4) dX10_spoiled_86 rfl rfl ?_
      refine s_iconst dX10_spoiled_87 (cin rfl) ?_
      obtain ⟨r5, hv6, h⟩ := bnd h
      refine s_callV (As := [vI x3, vI 3]) (rest := [vI x1]) (r := (some (vI r5))) (F' := F) dX10_spoiled_88 (clX10_175 (Nat.le_of_ble_eq_true rfl) (Nat.le_of_ble_eq_true rfl)) ho rfl ⟨_, _, _, _, rfl, ho, hv6, rfl, rfl⟩ rfl (Nat.le_of_ble_eq_true rfl) ?_
      refine s_iadd dX10_spoiled_91 ?_
      refine s_istore_n (ls' := [(1, vI (xw (x1 + r5))), (4, vI s0), (0, vR o), (2, vI x2), (3, vI x3)]) dX10_spoiled_92 rfl (Nat.le_of_ble_eq_true rfl) rfl ?_
      refine s_iinc (j := 4) dX10_spoiled_93 rfl (Nat.le_of_ble_eq_true rfl) rfl ?_
      refine s_goto (tgt := 20) dX10_spoiled_96 rfl ?_
      exact s_sub (ks := [3, 1, 4, 0]) rfl (hk20 o (xw (x1 + r5)) x2 (xw (x3 + 1)) F _ ho h hq)
    · have h := ifn hc4 h
      refine s_iconst dX10_spoiled_81 (cin rfl) ?_
      refine s_goto (tgt := 91) dX10_spoiled_82 rfl ?_
      refine s_iadd dX10_spoiled_91 ?_
      refine s_istore_n (ls' := [(1, vI (xw (x1 + 0))), (4, vI s0), (0, vR o), (2, vI x2), (3, vI x3)]) dX10_spoiled_92 rfl (Nat.le_of_ble_eq_true rfl) rfl ?_
      refine s_iinc (j := 4) dX10_spoiled_93 rfl (Nat.le_of_ble_eq_true rfl) rfl ?_
      refine s_goto (tgt := 20) dX10_spoiled_96 rfl ?_
      exact s_sub (ks := [3, 1, 4, 0]) rfl (hk20 o (xw (x1 + 0)) x2 (xw (x3 + 1)) F _ ho h hq)
theorem fX10_spoiled_b20_ok {Qr : Option PV → Mem → Prop}  (k4 : Nat → Int → Int → Mem → Option (Int × Mem)) (hk4 : ∀ (o : Nat) (x1 : Int) (x2 : Int) (F : Mem) (res : (Int × Mem)) (ho : isK o 10), k4 o x1 x2 F = some res → Qr (some (vI res.1)) res.2 → PR cX10_spoiled (zX10_spoiled Qr) 4 [(0, vR o), (1, vI x1), (2, vI x2)] [] F) : ∀ (n : Nat) (o : Nat) (x1 : Int) (x2 : Int) (x3 : Int) (F : Mem) (res : (Int × Mem)) (ho : isK o 10), fX10_spoiled_b20 k4 n o x1 x2 x3 F = some res → Qr (some (vI res.1)) res.2 → PR cX10_spoiled (zX10_spoiled Qr) 20 [(0, vR o), (1, vI x1), (2, vI x2), (3, vI x3)] [] F := by
  intro n
  induction n with
  | zero => intro o x1 x2 x3 F res ho h hq; exact nomatch (show (none : Option _) = some _ from h)
  | succ n ih =>
    intro o x1 x2 x3 F res ho h hq
    refine s_iload_n (j := 3) dX10_spoiled_20 rfl rfl ?_
    refine s_aload_n (j := 0) dX10_spoiled_21 rfl rfl ?_
    refine s_iconst dX10_spoiled_22 (cin rfl) ?_
    obtain ⟨r1, hv2, h⟩ := bnd h
    refine s_callV (As := [vI 5]) (rest := [vI x3]) (r := (some (vI r1))) (F' := F) dX10_spoiled_23 (clX10_181 (Nat.le_of_ble_eq_true rfl) (Nat.le_of_ble_eq_true rfl)) ho rfl ⟨_, _, _, rfl, ho, hv2, rfl, rfl⟩ rfl (Nat.le_of_ble_eq_true rfl) ?_
    refine s_icmp_ge (tgt := 99) dX10_spoiled_26 rfl (fun hc3 => ?_) (fun hc3 => ?_)
    · have h := ifp hc3 h
      refine s_iinc (ls' := [(2, vI (xw (x2 + 1))), (0, vR o), (1, vI x1), (3, vI x3)]) (j := 2) dX10_spoiled_99 rfl (Nat.le_of_ble_eq_true rfl) rfl ?_
      refine s_goto (tgt := 4) dX10_spoiled_102 rfl ?_
      exact s_sub (ks := [1, 2, 0]) rfl (hk4 o x1 (xw (x2 + 1)) F _ ho h hq)
    · have h := ifn hc3 h
      refine s_aload_n (j := 0) dX10_spoiled_29 rfl rfl ?_
      refine s_getI dX10_spoiled_30 flX10_333 ho ?_
      refine s_iload_n (j := 3) dX10_spoiled_33 rfl rfl ?_
      refine s_icmp_ne (tgt := 64) dX10_spoiled_34 rfl (fun hc4 => ?_) (fun hc4 => ?_)
      · have h := ifp hc4 h
        refine s_iconst dX10_spoiled_64 (cin rfl) ?_
        exact s_sub (ks := [0, 1, 2, 3]) rfl (fX10_spoiled_b65_ok k4 (fX10_spoiled_b20 k4 n) hk4 ih o x1 x2 x3 0 F _ ho h hq)
      · have h := ifn hc4 h
        refine s_aload_n (j := 0) dX10_spoiled_37 rfl rfl ?_
        refine s_iload_n (j := 3) dX10_spoiled_38 rfl rfl ?_
        refine s_iconst dX10_spoiled_39 (cin rfl) ?_
        refine s_iload_n (j := 2) dX10_spoiled_40 rfl rfl ?_
        obtain ⟨r5, hv6, h⟩ := bnd h
        refine s_callV (As := [vI x3, vI 1, vI x2]) (rest := []) (r := (some (vI r5))) (F' := F) dX10_spoiled_41 (clX10_215 (Nat.le_of_ble_eq_true rfl) (Nat.le_of_ble_eq_true rfl)) ho rfl ⟨_, _, _, _, _, rfl, ho, hv6, rfl, rfl⟩ rfl (Nat.le_of_ble_eq_true rfl) ?_
        refine s_if_eq (tgt := 64) dX10_spoiled_44 rfl (fun hc7 => ?_) (fun hc7 => ?_)
        · have h := ifp hc7 h
          refine s_iconst dX10_spoiled_64 (cin rfl) ?_
          exact s_sub (ks := [0, 1, 2, 3]) rfl (fX10_spoiled_b65_ok k4 (fX10_spoiled_b20 k4 n) hk4 ih o x1 x2 x3 0 F _ ho h hq)
        · have h := ifn hc7 h
          refine s_aload_n (j := 0) dX10_spoiled_47 rfl rfl ?_
          refine s_iload_n (j := 3) dX10_spoiled_48 rfl rfl ?_
          refine s_aload_n (j := 0) dX10_spoiled_49 rfl rfl ?_
          refine s_getI dX10_spoiled_50 flX10_303 ho ?_
          refine s_iload_n (j := 2) dX10_spoiled_53 rfl rfl ?_
          obtain ⟨r8, hv9, h⟩ := bnd h
          refine s_callV (As := [vI x3, vI (F o 26), vI x2]) (rest := []) (r := (some (vI r8))) (F' := F) dX10_spoiled_54 (clX10_279 (Nat.le_of_ble_eq_true rfl) (Nat.le_of_ble_eq_true rfl)) ho rfl ⟨_, _, _, _, _, rfl, ho, hv9, rfl, rfl⟩ rfl (Nat.le_of_ble_eq_true rfl) ?_
          refine s_if_eq (tgt := 64) dX10_spoiled_57 rfl (fun hc10 => ?_) (fun hc10 => ?_)
          · have h := ifp hc10 h
            refine s_iconst dX10_spoiled_64 (cin rfl) ?_
            exact s_sub (ks := [0, 1, 2, 3]) rfl (fX10_spoiled_b65_ok k4 (fX10_spoiled_b20 k4 n) hk4 ih o x1 x2 x3 0 F _ ho h hq)
          · have h := ifn hc10 h
            refine s_iconst dX10_spoiled_60 (cin rfl) ?_
            refine s_goto (tgt := 65) dX10_spoiled_61 rfl ?_
            exact s_sub (ks := [0, 1, 2, 3]) rfl (fX10_spoiled_b65_ok k4 (fX10_spoiled_b20 k4 n) hk4 ih o x1 x2 x3 1 F _ ho h hq)
theorem fX10_spoiled_b4_ok {Qr : Option PV → Mem → Prop}  : ∀ (n : Nat) (o : Nat) (x1 : Int) (x2 : Int) (F : Mem) (res : (Int × Mem)) (ho : isK o 10), fX10_spoiled_b4 n o x1 x2 F = some res → Qr (some (vI res.1)) res.2 → PR cX10_spoiled (zX10_spoiled Qr) 4 [(0, vR o), (1, vI x1), (2, vI x2)] [] F := by
  intro n
  induction n with
  | zero => intro o x1 x2 F res ho h hq; exact nomatch (show (none : Option _) = some _ from h)
  | succ n ih =>
    intro o x1 x2 F res ho h hq
    refine s_iload_n (j := 2) dX10_spoiled_4 rfl rfl ?_
    refine s_aload_n (j := 0) dX10_spoiled_5 rfl rfl ?_
    refine s_iconst dX10_spoiled_6 (cin rfl) ?_
    obtain ⟨r1, hv2, h⟩ := bnd h
    refine s_callV (As := [vI 0]) (rest := [vI x2]) (r := (some (vI r1))) (F' := F) dX10_spoiled_7 (clX10_181 (Nat.le_of_ble_eq_true rfl) (Nat.le_of_ble_eq_true rfl)) ho rfl ⟨_, _, _, rfl, ho, hv2, rfl, rfl⟩ rfl (Nat.le_of_ble_eq_true rfl) ?_
    refine s_icmp_ge (tgt := 105) dX10_spoiled_10 rfl (fun hc3 => ?_) (fun hc3 => ?_)
    · have h := ifp hc3 h
      refine s_iload_n (j := 1) dX10_spoiled_105 rfl rfl ?_
      have h := Option.some.inj h
      subst h
      exact s_ireturn dX10_spoiled_106 rfl hq
    · have h := ifn hc3 h
      refine s_aload_n (j := 0) dX10_spoiled_13 rfl rfl ?_
      refine s_iload_n (j := 2) dX10_spoiled_14 rfl rfl ?_
      obtain ⟨q4, hv5, h⟩ := bnd h
      refine s_callV (As := [vI x2]) (rest := []) (r := none) (F' := q4) dX10_spoiled_15 (clX10_359 (Nat.le_of_ble_eq_true rfl) (Nat.le_of_ble_eq_true rfl)) ho rfl ⟨_, _, _, rfl, ho, hv5, rfl, rfl⟩ rfl (Nat.le_of_ble_eq_true rfl) ?_
      refine s_iconst dX10_spoiled_18 (cin rfl) ?_
      refine s_istore_n (ls' := [(3, vI 0), (0, vR o), (1, vI x1), (2, vI x2)]) dX10_spoiled_19 rfl (Nat.le_of_ble_eq_true rfl) rfl ?_
      exact s_sub (ks := [1, 2, 3, 0]) rfl (fX10_spoiled_b20_ok (fX10_spoiled_b4 n) ih FU o x1 x2 0 q4 _ ho h hq)
theorem fX10_spoiled_ok {Qr : Option PV → Mem → Prop} : ∀ (o : Nat) (F : Mem) (res : (Int × Mem)) (ho : isK o 10), fX10_spoiled o F = some res → Qr (some (vI res.1)) res.2 → PR cX10_spoiled (zX10_spoiled Qr) 0 [(0, vR o)] [] F := by
  intro o F res ho h hq
  refine s_iconst dX10_spoiled_0 (cin rfl) ?_
  refine s_istore_n (ls' := [(1, vI 0), (0, vR o)]) dX10_spoiled_1 rfl (Nat.le_of_ble_eq_true rfl) rfl ?_
  refine s_iconst dX10_spoiled_2 (cin rfl) ?_
  refine s_istore_n dX10_spoiled_3 rfl (Nat.le_of_ble_eq_true rfl) rfl ?_
  exact s_sub (ks := [2, 1, 0]) rfl (fX10_spoiled_b4_ok FU o 0 0 F _ ho h hq)
def gX10_spoiled : XG := fun As F r F' => ∃ o : Nat, ∃ res : (Int × Mem), As = [vR o] ∧ isK o 10 ∧ fX10_spoiled o F = some res ∧ r = some (vI res.1) ∧ F' = res.2
theorem ctX10_spoiled : xCT yX10_spoiled cX10_spoiled 5 (some FieldType.int) 5 122 gX10_spoiled := xmet (by decide +kernel) (fun As F r F' hg => by obtain ⟨o, res, rfl, ho, h, rfl, rfl⟩ := hg; exact Nat.le_of_ble_eq_true rfl) (fun As F r F' hg => by obtain ⟨o, res, rfl, ho, h, rfl, rfl⟩ := hg; exact fX10_spoiled_ok o _ _ ho h ⟨rfl, rfl⟩)
theorem mcX10_spoiled : Cond.code yX10_spoiled cX10_spoiled 5 (some FieldType.int) ∈ xw_T ∧ Cond.initialized yX10_spoiled.cls ∈ xw_T ∧ Cond.instanceMethod yX10_spoiled ∈ xw_T ∧ Cond.selects yX10_spoiled.cls yX10_spoiled yX10_spoiled ∈ xw_T := ⟨(xinT 1862 (by decide +kernel) (by decide +kernel)), (xinT 127 (by decide +kernel) (by decide +kernel)), (xinT 1861 (by decide +kernel) (by decide +kernel)), (xinT 103 (by decide +kernel) (by decide +kernel))⟩
theorem clX10_393 {fr lo : Nat} (h1 : 5 + 1 ≤ fr) (h2 : 8 + (5 + 11) + 122 ≤ lo) : xCall RX10 fr lo 0 393 10 0 gX10_spoiled := ⟨_, _, _, _, _, _, ctX10_spoiled, h1, h2, mcX10_spoiled.1, (xinT 1859 (by decide +kernel) (by decide +kernel)), mcX10_spoiled.2.1, ⟨by decide +kernel, by decide +kernel, by decide +kernel⟩, by rw [if_pos rfl]; exact ⟨mcX10_spoiled.2.2.1, mcX10_spoiled.2.2.2, _, _, rfl⟩⟩
theorem dX10_slotsAt_0 : decode cX10_slotsAt 0 = .ok (.iconst 0, 1) := by decide +kernel
theorem dX10_slotsAt_1 : decode cX10_slotsAt 1 = .ok (.istore_n 3, 1) := by decide +kernel
theorem dX10_slotsAt_2 : decode cX10_slotsAt 2 = .ok (.iconst 0, 1) := by decide +kernel
theorem dX10_slotsAt_3 : decode cX10_slotsAt 3 = .ok (.istore 4, 2) := by decide +kernel
theorem dX10_slotsAt_5 : decode cX10_slotsAt 5 = .ok (.iload 4, 2) := by decide +kernel
theorem dX10_slotsAt_7 : decode cX10_slotsAt 7 = .ok (.aload_n 0, 1) := by decide +kernel
theorem dX10_slotsAt_8 : decode cX10_slotsAt 8 = .ok (.iconst 0, 1) := by decide +kernel
theorem dX10_slotsAt_9 : decode cX10_slotsAt 9 = .ok (.invokevirtual 181, 3) := by decide +kernel
theorem dX10_slotsAt_12 : decode cX10_slotsAt 12 = .ok (.if_icmp .ge 78, 3) := by decide +kernel
theorem dX10_slotsAt_15 : decode cX10_slotsAt 15 = .ok (.aload_n 0, 1) := by decide +kernel
theorem dX10_slotsAt_16 : decode cX10_slotsAt 16 = .ok (.iload 4, 2) := by decide +kernel
theorem dX10_slotsAt_18 : decode cX10_slotsAt 18 = .ok (.invokevirtual 359, 3) := by decide +kernel
theorem dX10_slotsAt_21 : decode cX10_slotsAt 21 = .ok (.iload_n 3, 1) := by decide +kernel
theorem dX10_slotsAt_22 : decode cX10_slotsAt 22 = .ok (.aload_n 0, 1) := by decide +kernel
theorem dX10_slotsAt_23 : decode cX10_slotsAt 23 = .ok (.getfield 333, 3) := by decide +kernel
theorem dX10_slotsAt_26 : decode cX10_slotsAt 26 = .ok (.iload_n 1, 1) := by decide +kernel
theorem dX10_slotsAt_27 : decode cX10_slotsAt 27 = .ok (.if_icmp .ne 19, 3) := by decide +kernel
theorem dX10_slotsAt_30 : decode cX10_slotsAt 30 = .ok (.iload_n 2, 1) := by decide +kernel
theorem dX10_slotsAt_31 : decode cX10_slotsAt 31 = .ok (.ifCond .eq 11, 3) := by decide +kernel
theorem dX10_slotsAt_34 : decode cX10_slotsAt 34 = .ok (.aload_n 0, 1) := by decide +kernel
theorem dX10_slotsAt_35 : decode cX10_slotsAt 35 = .ok (.getfield 333, 3) := by decide +kernel
theorem dX10_slotsAt_38 : decode cX10_slotsAt 38 = .ok (.iconst (-1), 1) := by decide +kernel
theorem dX10_slotsAt_39 : decode cX10_slotsAt 39 = .ok (.if_icmp .ne 7, 3) := by decide +kernel
theorem dX10_slotsAt_42 : decode cX10_slotsAt 42 = .ok (.iconst 1, 1) := by decide +kernel
theorem dX10_slotsAt_43 : decode cX10_slotsAt 43 = .ok (.goto 39, 3) := by decide +kernel
theorem dX10_slotsAt_46 : decode cX10_slotsAt 46 = .ok (.iload_n 2, 1) := by decide +kernel
theorem dX10_slotsAt_47 : decode cX10_slotsAt 47 = .ok (.ifCond .eq 34, 3) := by decide +kernel
theorem dX10_slotsAt_50 : decode cX10_slotsAt 50 = .ok (.iload_n 1, 1) := by decide +kernel
theorem dX10_slotsAt_51 : decode cX10_slotsAt 51 = .ok (.bipush (-2), 2) := by decide +kernel
theorem dX10_slotsAt_53 : decode cX10_slotsAt 53 = .ok (.if_icmp .ne 28, 3) := by decide +kernel
theorem dX10_slotsAt_56 : decode cX10_slotsAt 56 = .ok (.aload_n 0, 1) := by decide +kernel
theorem dX10_slotsAt_57 : decode cX10_slotsAt 57 = .ok (.getfield 333, 3) := by decide +kernel
theorem dX10_slotsAt_60 : decode cX10_slotsAt 60 = .ok (.iconst (-1), 1) := by decide +kernel
theorem dX10_slotsAt_61 : decode cX10_slotsAt 61 = .ok (.if_icmp .eq 20, 3) := by decide +kernel
theorem dX10_slotsAt_64 : decode cX10_slotsAt 64 = .ok (.aload_n 0, 1) := by decide +kernel
theorem dX10_slotsAt_65 : decode cX10_slotsAt 65 = .ok (.aload_n 0, 1) := by decide +kernel
theorem dX10_slotsAt_66 : decode cX10_slotsAt 66 = .ok (.getfield 333, 3) := by decide +kernel
theorem dX10_slotsAt_69 : decode cX10_slotsAt 69 = .ok (.iload 4, 2) := by decide +kernel
theorem dX10_slotsAt_71 : decode cX10_slotsAt 71 = .ok (.invokevirtual 319, 3) := by decide +kernel
theorem dX10_slotsAt_74 : decode cX10_slotsAt 74 = .ok (.ifCond .ne 7, 3) := by decide +kernel
theorem dX10_slotsAt_77 : decode cX10_slotsAt 77 = .ok (.iconst 1, 1) := by decide +kernel
theorem dX10_slotsAt_78 : decode cX10_slotsAt 78 = .ok (.goto 4, 3) := by decide +kernel
theorem dX10_slotsAt_81 : decode cX10_slotsAt 81 = .ok (.iconst 0, 1) := by decide +kernel
theorem dX10_slotsAt_82 : decode cX10_slotsAt 82 = .ok (.iadd, 1) := by decide +kernel
theorem dX10_slotsAt_83 : decode cX10_slotsAt 83 = .ok (.istore_n 3, 1) := by decide +kernel
theorem dX10_slotsAt_84 : decode cX10_slotsAt 84 = .ok (.iinc 4 1, 3) := by decide +kernel
theorem dX10_slotsAt_87 : decode cX10_slotsAt 87 = .ok (.goto (-82), 3) := by decide +kernel
theorem dX10_slotsAt_90 : decode cX10_slotsAt 90 = .ok (.iload_n 3, 1) := by decide +kernel
theorem dX10_slotsAt_91 : decode cX10_slotsAt 91 = .ok (.ireturn, 1) := by decide +kernel
def zX10_slotsAt (Qr : Option PV → Mem → Prop) : XZ := (RX10, 5, 122, 5, some FieldType.int, Qr)
noncomputable def fX10_slotsAt_b46 (k5 : Nat → Int → Int → Int → Int → Mem → Option (Int × Mem)) (o : Nat) (x1 : Int) (x2 : Int) (x4 : Int) (s0 : Int) (F : Mem) : Option (Int × Mem) :=
  if x2 = 0 then
    k5 o x1 x2 (xw (s0 + 0)) (xw (x4 + 1)) F
  else
    if x1 ≠ (-2) then
      k5 o x1 x2 (xw (s0 + 0)) (xw (x4 + 1)) F
    else
      if (F o 38) = (-1) then
        k5 o x1 x2 (xw (s0 + 0)) (xw (x4 + 1)) F
      else
        (fX10_gainIn o (F o 38) x4 F).bind fun r4 =>
        if r4 ≠ 0 then
          k5 o x1 x2 (xw (s0 + 0)) (xw (x4 + 1)) F
        else
          k5 o x1 x2 (xw (s0 + 1)) (xw (x4 + 1)) F
noncomputable def fX10_slotsAt_b5 : Nat → Nat → Int → Int → Int → Int → Mem → Option (Int × Mem)
  | 0, _, _, _, _, _, _ => none
  | n + 1, o, x1, x2, x3, x4, F =>
    (fX10_of o 0 F).bind fun r1 =>
    if r1 ≤ x4 then
      some (x3, F)
    else
      (fX10_walksTo o x4 F).bind fun q4 =>
      if (q4 o 38) ≠ x1 then
        fX10_slotsAt_b46 (fX10_slotsAt_b5 n) o x1 x2 x4 x3 q4
      else
        if x2 = 0 then
          fX10_slotsAt_b5 n o x1 x2 (xw (x3 + 1)) (xw (x4 + 1)) q4
        else
          if (q4 o 38) ≠ (-1) then
            fX10_slotsAt_b46 (fX10_slotsAt_b5 n) o x1 x2 x4 x3 q4
          else
            fX10_slotsAt_b5 n o x1 x2 (xw (x3 + 1)) (xw (x4 + 1)) q4
noncomputable def fX10_slotsAt (o : Nat) (x1 : Int) (x2 : Int) (F : Mem) : Option (Int × Mem) :=
  fX10_slotsAt_b5 FU o x1 x2 0 0 F
theorem fX10_slotsAt_b46_ok {Qr : Option PV → Mem → Prop}  (k5 : Nat → Int → Int → Int → Int → Mem → Option (Int × Mem)) (hk5 : ∀ (o : Nat) (x1 : Int) (x2 : Int) (x3 : Int) (x4 : Int) (F : Mem) (res : (Int × Mem)) (ho : isK o 10), k5 o x1 x2 x3 x4 F = some res → Qr (some (vI res.1)) res.2 → PR cX10_slotsAt (zX10_slotsAt Qr) 5 [(0, vR o), (1, vI x1), (2, vI x2), (3, vI x3), (4, vI x4)] [] F) : ∀ (o : Nat) (x1 : Int) (x2 : Int) (x4 : Int) (s0 : Int) (F : Mem) (res : (Int × Mem)) (ho : isK o 10), fX10_slotsAt_b46 k5 o x1 x2 x4 s0 F = some res → Qr (some (vI res.1)) res.2 → PR cX10_slotsAt (zX10_slotsAt Qr) 46 [(0, vR o), (1, vI x1), (2, vI x2), (4, vI x4)] [vI s0] F := by
  intro o x1 x2 x4 s0 F res ho h hq
  refine s_iload_n (j := 2) dX10_slotsAt_46 rfl rfl ?_
  refine s_if_eq (tgt := 81) dX10_slotsAt_47 rfl (fun hc1 => ?_) (fun hc1 => ?_)
  · have h := ifp hc1 h
    refine s_iconst dX10_slotsAt_81 (cin rfl) ?_
    refine s_iadd dX10_slotsAt_82 ?_
    refine s_istore_n (ls' := [(3, vI (xw (s0 + 0))), (0, vR o), (1, vI x1), (2, vI x2), (4, vI x4)]) dX10_slotsAt_83 rfl (Nat.le_of_ble_eq_true rfl) rfl ?_
    refine s_iinc (j := 4) dX10_slotsAt_84 rfl (Nat.le_of_ble_eq_true rfl) rfl ?_
    refine s_goto (tgt := 5) dX10_slotsAt_87 rfl ?_
    exact s_sub (ks := [2, 3, 4, 1, 0]) rfl (hk5 o x1 x2 (xw (s0 + 0)) (xw (x4 + 1)) F _ ho h hq)
  · have h := ifn hc1 h
    refine s_iload_n (j := 1) dX10_slotsAt_50 rfl rfl ?_
    refine s_bipush dX10_slotsAt_51 rfl (cin rfl) ?_
    refine s_icmp_ne (tgt := 81) dX10_slotsAt_53 rfl (fun hc2 => ?_) (fun hc2 => ?_)
    · have h := ifp hc2 h
      refine s_iconst dX10_slotsAt_81 (cin rfl) ?_
      refine s_iadd dX10_slotsAt_82 ?_
      refine s_istore_n (ls' := [(3, vI (xw (s0 + 0))), (0, vR o), (1, vI x1), (2, vI x2), (4, vI x4)]) dX10_slotsAt_83 rfl (Nat.le_of_ble_eq_true rfl) rfl ?_
      refine s_iinc (j := 4) dX10_slotsAt_84 rfl (Nat.le_of_ble_eq_true rfl) rfl ?_
      refine s_goto (tgt := 5) dX10_slotsAt_87 rfl ?_
      exact s_sub (ks := [2, 3, 4, 1, 0]) rfl (hk5 o x1 x2 (xw (s0 + 0)) (xw (x4 + 1)) F _ ho h hq)
    · have h := ifn hc2 h
      refine s_aload_n (j := 0) dX10_slotsAt_56 rfl rfl ?_
      refine s_getI dX10_slotsAt_57 flX10_333 ho ?_
      refine s_iconst dX10_slotsAt_60 (cin rfl) ?_
      refine s_icmp_eq (tgt := 81) dX10_slotsAt_61 rfl (fun hc3 => ?_) (fun hc3 => ?_)
      · have h := ifp hc3 h
        refine s_iconst dX10_slotsAt_81 (cin rfl) ?_
        refine s_iadd dX10_slotsAt_82 ?_
        refine s_istore_n (ls' := [(3, vI (xw (s0 + 0))), (0, vR o), (1, vI x1), (2, vI x2), (4, vI x4)]) dX10_slotsAt_83 rfl (Nat.le_of_ble_eq_true rfl) rfl ?_
        refine s_iinc (j := 4) dX10_slotsAt_84 rfl (Nat.le_of_ble_eq_true rfl) rfl ?_
        refine s_goto (tgt := 5) dX10_slotsAt_87 rfl ?_
        exact s_sub (ks := [2, 3, 4, 1, 0]) rfl (hk5 o x1 x2 (xw (s0 + 0)) (xw (x4 + 1)) F _ ho h hq)
      · have h := ifn hc3 h
        refine s_aload_n (j := 0) dX10_slotsAt_64 rfl rfl ?_
        refine s_aload_n (j := 0) dX10_slotsAt_65 rfl rfl ?_
        refine s_getI dX10_slotsAt_66 flX10_333 ho ?_
        refine s_iload (j := 3) dX10_slotsAt_69 rfl ?_
        obtain ⟨r4, hv5, h⟩ := bnd h
        refine s_callV (As := [vI (F o 38), vI x4]) (rest := [vI s0]) (r := (some (vI r4))) (F' := F) dX10_slotsAt_71 (clX10_319 (Nat.le_of_ble_eq_true rfl) (Nat.le_of_ble_eq_true rfl)) ho rfl ⟨_, _, _, _, rfl, ho, hv5, rfl, rfl⟩ rfl (Nat.le_of_ble_eq_true rfl) ?_
        refine s_if_ne (tgt := 81) dX10_slotsAt_74 rfl (fun hc6 => ?_) (fun hc6 => ?_)
        · have h := ifp hc6 h
          refine s_iconst dX10_slotsAt_81 (cin rfl) ?_
          refine s_iadd dX10_slotsAt_82 ?_
          refine s_istore_n (ls' := [(3, vI (xw (s0 + 0))), (0, vR o), (1, vI x1), (2, vI x2), (4, vI x4)]) dX10_slotsAt_83 rfl (Nat.le_of_ble_eq_true rfl) rfl ?_
          refine s_iinc (j := 4) dX10_slotsAt_84 rfl (Nat.le_of_ble_eq_true rfl) rfl ?_
          refine s_goto (tgt := 5) dX10_slotsAt_87 rfl ?_
          exact s_sub (ks := [2, 3, 4, 1, 0]) rfl (hk5 o x1 x2 (xw (s0 + 0)) (xw (x4 + 1)) F _ ho h hq)
        · have h := ifn hc6 h
          refine s_iconst dX10_slotsAt_77 (cin rfl) ?_
          refine s_goto (tgt := 82) dX10_slotsAt_78 rfl ?_
          refine s_iadd dX10_slotsAt_82 ?_
          refine s_istore_n (ls' := [(3, vI (xw (s0 + 1))), (0, vR o), (1, vI x1), (2, vI x2), (4, vI x4)]) dX10_slotsAt_83 rfl (Nat.le_of_ble_eq_true rfl) rfl ?_
          refine s_iinc (j := 4) dX10_slotsAt_84 rfl (Nat.le_of_ble_eq_true rfl) rfl ?_
          refine s_goto (tgt := 5) dX10_slotsAt_87 rfl ?_
          exact s_sub (ks := [2, 3, 4, 1, 0]) rfl (hk5 o x1 x2 (xw (s0 + 1)) (xw (x4 + 1)) F _ ho h hq)
theorem fX10_slotsAt_b5_ok {Qr : Option PV → Mem → Prop}  : ∀ (n : Nat) (o : Nat) (x1 : Int) (x2 : Int) (x3 : Int) (x4 : Int) (F : Mem) (res : (Int × Mem)) (ho : isK o 10), fX10_slotsAt_b5 n o x1 x2 x3 x4 F = some res → Qr (some (vI res.1)) res.2 → PR cX10_slotsAt (zX10_slotsAt Qr) 5 [(0, vR o), (1, vI x1), (2, vI x2), (3, vI x3), (4, vI x4)] [] F := by
  intro n
  induction n with
  | zero => intro o x1 x2 x3 x4 F res ho h hq; exact nomatch (show (none : Option _) = some _ from h)
  | succ n ih =>
    intro o x1 x2 x3 x4 F res ho h hq
    refine s_iload (j := 4) dX10_slotsAt_5 rfl ?_
    refine s_aload_n (j := 0) dX10_slotsAt_7 rfl rfl ?_
    refine s_iconst dX10_slotsAt_8 (cin rfl) ?_
    obtain ⟨r1, hv2, h⟩ := bnd h
    refine s_callV (As := [vI 0]) (rest := [vI x4]) (r := (some (vI r1))) (F' := F) dX10_slotsAt_9 (clX10_181 (Nat.le_of_ble_eq_true rfl) (Nat.le_of_ble_eq_true rfl)) ho rfl ⟨_, _, _, rfl, ho, hv2, rfl, rfl⟩ rfl (Nat.le_of_ble_eq_true rfl) ?_
    refine s_icmp_ge (tgt := 90) dX10_slotsAt_12 rfl (fun hc3 => ?_) (fun hc3 => ?_)
    · have h := ifp hc3 h
      refine s_iload_n (j := 3) dX10_slotsAt_90 rfl rfl ?_
      have h := Option.some.inj h
      subst h
      exact s_ireturn dX10_slotsAt_91 rfl hq
    · have h := ifn hc3 h
      refine s_aload_n (j := 0) dX10_slotsAt_15 rfl rfl ?_
      refine s_iload (j := 4) dX10_slotsAt_16 rfl ?_
      obtain ⟨q4, hv5, h⟩ := bnd h
      refine s_callV (As := [vI x4]) (rest := []) (r := none) (F' := q4) dX10_slotsAt_18 (clX10_359 (Nat.le_of_ble_eq_true rfl) (Nat.le_of_ble_eq_true rfl)) ho rfl ⟨_, _, _, rfl, ho, hv5, rfl, rfl⟩ rfl (Nat.le_of_ble_eq_true rfl) ?_
      refine s_iload_n (j := 3) dX10_slotsAt_21 rfl rfl ?_
      refine s_aload_n (j := 0) dX10_slotsAt_22 rfl rfl ?_
      refine s_getI dX10_slotsAt_23 flX10_333 ho ?_
      refine s_iload_n (j := 1) dX10_slotsAt_26 rfl rfl ?_
      refine s_icmp_ne (tgt := 46) dX10_slotsAt_27 rfl (fun hc6 => ?_) (fun hc6 => ?_)
      · have h := ifp hc6 h
        exact s_sub (ks := [0, 1, 2, 4]) rfl (fX10_slotsAt_b46_ok (fX10_slotsAt_b5 n) ih o x1 x2 x4 x3 q4 _ ho h hq)
      · have h := ifn hc6 h
        refine s_iload_n (j := 2) dX10_slotsAt_30 rfl rfl ?_
        refine s_if_eq (tgt := 42) dX10_slotsAt_31 rfl (fun hc7 => ?_) (fun hc7 => ?_)
        · have h := ifp hc7 h
          refine s_iconst dX10_slotsAt_42 (cin rfl) ?_
          refine s_goto (tgt := 82) dX10_slotsAt_43 rfl ?_
          refine s_iadd dX10_slotsAt_82 ?_
          refine s_istore_n (ls' := [(3, vI (xw (x3 + 1))), (0, vR o), (1, vI x1), (2, vI x2), (4, vI x4)]) dX10_slotsAt_83 rfl (Nat.le_of_ble_eq_true rfl) rfl ?_
          refine s_iinc (j := 4) dX10_slotsAt_84 rfl (Nat.le_of_ble_eq_true rfl) rfl ?_
          refine s_goto (tgt := 5) dX10_slotsAt_87 rfl ?_
          exact s_sub (ks := [2, 3, 4, 1, 0]) rfl (ih o x1 x2 (xw (x3 + 1)) (xw (x4 + 1)) q4 _ ho h hq)
        · have h := ifn hc7 h
          refine s_aload_n (j := 0) dX10_slotsAt_34 rfl rfl ?_
          refine s_getI dX10_slotsAt_35 flX10_333 ho ?_
          refine s_iconst dX10_slotsAt_38 (cin rfl) ?_
          refine s_icmp_ne (tgt := 46) dX10_slotsAt_39 rfl (fun hc8 => ?_) (fun hc8 => ?_)
          · have h := ifp hc8 h
            exact s_sub (ks := [0, 1, 2, 4]) rfl (fX10_slotsAt_b46_ok (fX10_slotsAt_b5 n) ih o x1 x2 x4 x3 q4 _ ho h hq)
          · have h := ifn hc8 h
            refine s_iconst dX10_slotsAt_42 (cin rfl) ?_
            refine s_goto (tgt := 82) dX10_slotsAt_43 rfl ?_
            refine s_iadd dX10_slotsAt_82 ?_
            refine s_istore_n (ls' := [(3, vI (xw (x3 + 1))), (0, vR o), (1, vI x1), (2, vI x2), (4, vI x4)]) dX10_slotsAt_83 rfl (Nat.le_of_ble_eq_true rfl) rfl ?_
            refine s_iinc (j := 4) dX10_slotsAt_84 rfl (Nat.le_of_ble_eq_true rfl) rfl ?_
            refine s_goto (tgt := 5) dX10_slotsAt_87 rfl ?_
            exact s_sub (ks := [2, 3, 4, 1, 0]) rfl (ih o x1 x2 (xw (x3 + 1)) (xw (x4 + 1)) q4 _ ho h hq)
theorem fX10_slotsAt_ok {Qr : Option PV → Mem → Prop} : ∀ (o : Nat) (x1 : Int) (x2 : Int) (F : Mem) (res : (Int × Mem)) (ho : isK o 10), fX10_slotsAt o x1 x2 F = some res → Qr (some (vI res.1)) res.2 → PR cX10_slotsAt (zX10_slotsAt Qr) 0 [(0, vR o), (1, vI x1), (2, vI x2)] [] F := by
  intro o x1 x2 F res ho h hq
  refine s_iconst dX10_slotsAt_0 (cin rfl) ?_
  refine s_istore_n (ls' := [(3, vI 0), (0, vR o), (1, vI x1), (2, vI x2)]) dX10_slotsAt_1 rfl (Nat.le_of_ble_eq_true rfl) rfl ?_
  refine s_iconst dX10_slotsAt_2 (cin rfl) ?_
  refine s_istore dX10_slotsAt_3 (Nat.le_of_ble_eq_true rfl) rfl ?_
  exact s_sub (ks := [2, 3, 4, 1, 0]) rfl (fX10_slotsAt_b5_ok FU o x1 x2 0 0 F _ ho h hq)
def gX10_slotsAt : XG := fun As F r F' => ∃ o : Nat, ∃ x1 : Int, ∃ x2 : Int, ∃ res : (Int × Mem), As = [vR o, vI x1, vI x2] ∧ isK o 10 ∧ fX10_slotsAt o x1 x2 F = some res ∧ r = some (vI res.1) ∧ F' = res.2
theorem ctX10_slotsAt : xCT yX10_slotsAt cX10_slotsAt 5 (some FieldType.int) 5 122 gX10_slotsAt := xmet (by decide +kernel) (fun As F r F' hg => by obtain ⟨o, x1, x2, res, rfl, ho, h, rfl, rfl⟩ := hg; exact Nat.le_of_ble_eq_true rfl) (fun As F r F' hg => by obtain ⟨o, x1, x2, res, rfl, ho, h, rfl, rfl⟩ := hg; exact fX10_slotsAt_ok o x1 x2 _ _ ho h ⟨rfl, rfl⟩)
theorem mcX10_slotsAt : Cond.code yX10_slotsAt cX10_slotsAt 5 (some FieldType.int) ∈ xw_T ∧ Cond.initialized yX10_slotsAt.cls ∈ xw_T ∧ Cond.instanceMethod yX10_slotsAt ∈ xw_T ∧ Cond.selects yX10_slotsAt.cls yX10_slotsAt yX10_slotsAt ∈ xw_T := ⟨(xinT 1866 (by decide +kernel) (by decide +kernel)), (xinT 127 (by decide +kernel) (by decide +kernel)), (xinT 1865 (by decide +kernel) (by decide +kernel)), (xinT 104 (by decide +kernel) (by decide +kernel))⟩
theorem clX10_396 {fr lo : Nat} (h1 : 5 + 1 ≤ fr) (h2 : 8 + (5 + 11) + 122 ≤ lo) : xCall RX10 fr lo 0 396 10 2 gX10_slotsAt := ⟨_, _, _, _, _, _, ctX10_slotsAt, h1, h2, mcX10_slotsAt.1, (xinT 1863 (by decide +kernel) (by decide +kernel)), mcX10_slotsAt.2.1, ⟨by decide +kernel, by decide +kernel, by decide +kernel⟩, by rw [if_pos rfl]; exact ⟨mcX10_slotsAt.2.2.1, mcX10_slotsAt.2.2.2, _, _, rfl⟩⟩
