theorem dX4_copyFrom_0 : decode cX4_copyFrom 0 = .ok (.aload_n 1, 1) := by decide +kernel
theorem dX4_copyFrom_1 : decode cX4_copyFrom 1 = .ok (.getfield 9, 3) := by decide +kernel
theorem dX4_copyFrom_4 : decode cX4_copyFrom 4 = .ok (.iconst 0, 1) := by decide +kernel
theorem dX4_copyFrom_5 : decode cX4_copyFrom 5 = .ok (.aload_n 0, 1) := by decide +kernel
theorem dX4_copyFrom_6 : decode cX4_copyFrom 6 = .ok (.getfield 9, 3) := by decide +kernel
theorem dX4_copyFrom_9 : decode cX4_copyFrom 9 = .ok (.iconst 0, 1) := by decide +kernel
theorem dX4_copyFrom_10 : decode cX4_copyFrom 10 = .ok (.sipush 600, 3) := by decide +kernel
theorem dX4_copyFrom_13 : decode cX4_copyFrom 13 = .ok (.invokestatic 51, 3) := by decide +kernel
theorem dX4_copyFrom_16 : decode cX4_copyFrom 16 = .ok (.aload_n 0, 1) := by decide +kernel
theorem dX4_copyFrom_17 : decode cX4_copyFrom 17 = .ok (.aload_n 1, 1) := by decide +kernel
theorem dX4_copyFrom_18 : decode cX4_copyFrom 18 = .ok (.getfield 15, 3) := by decide +kernel
theorem dX4_copyFrom_21 : decode cX4_copyFrom 21 = .ok (.putfield 15, 3) := by decide +kernel
theorem dX4_copyFrom_24 : decode cX4_copyFrom 24 = .ok (.aload_n 0, 1) := by decide +kernel
theorem dX4_copyFrom_25 : decode cX4_copyFrom 25 = .ok (.aload_n 1, 1) := by decide +kernel
theorem dX4_copyFrom_26 : decode cX4_copyFrom 26 = .ok (.getfield 19, 3) := by decide +kernel
theorem dX4_copyFrom_29 : decode cX4_copyFrom 29 = .ok (.putfield 19, 3) := by decide +kernel
theorem dX4_copyFrom_32 : decode cX4_copyFrom 32 = .ok (.aload_n 0, 1) := by decide +kernel
theorem dX4_copyFrom_33 : decode cX4_copyFrom 33 = .ok (.aload_n 1, 1) := by decide +kernel
theorem dX4_copyFrom_34 : decode cX4_copyFrom 34 = .ok (.getfield 22, 3) := by decide +kernel
theorem dX4_copyFrom_37 : decode cX4_copyFrom 37 = .ok (.putfield 22, 3) := by decide +kernel
theorem dX4_copyFrom_40 : decode cX4_copyFrom 40 = .ok (.aload_n 1, 1) := by decide +kernel
theorem dX4_copyFrom_41 : decode cX4_copyFrom 41 = .ok (.getfield 25, 3) := by decide +kernel
theorem dX4_copyFrom_44 : decode cX4_copyFrom 44 = .ok (.iconst 0, 1) := by decide +kernel
theorem dX4_copyFrom_45 : decode cX4_copyFrom 45 = .ok (.aload_n 0, 1) := by decide +kernel
theorem dX4_copyFrom_46 : decode cX4_copyFrom 46 = .ok (.getfield 25, 3) := by decide +kernel
theorem dX4_copyFrom_49 : decode cX4_copyFrom 49 = .ok (.iconst 0, 1) := by decide +kernel
theorem dX4_copyFrom_50 : decode cX4_copyFrom 50 = .ok (.iconst 4, 1) := by decide +kernel
theorem dX4_copyFrom_51 : decode cX4_copyFrom 51 = .ok (.invokestatic 51, 3) := by decide +kernel
theorem dX4_copyFrom_54 : decode cX4_copyFrom 54 = .ok (.iconst 0, 1) := by decide +kernel
theorem dX4_copyFrom_55 : decode cX4_copyFrom 55 = .ok (.istore_n 2, 1) := by decide +kernel
theorem dX4_copyFrom_56 : decode cX4_copyFrom 56 = .ok (.iload_n 2, 1) := by decide +kernel
theorem dX4_copyFrom_57 : decode cX4_copyFrom 57 = .ok (.iconst 2, 1) := by decide +kernel
theorem dX4_copyFrom_58 : decode cX4_copyFrom 58 = .ok (.if_icmp .ge 54, 3) := by decide +kernel
theorem dX4_copyFrom_61 : decode cX4_copyFrom 61 = .ok (.aload_n 0, 1) := by decide +kernel
theorem dX4_copyFrom_62 : decode cX4_copyFrom 62 = .ok (.getfield 31, 3) := by decide +kernel
theorem dX4_copyFrom_65 : decode cX4_copyFrom 65 = .ok (.iload_n 2, 1) := by decide +kernel
theorem dX4_copyFrom_66 : decode cX4_copyFrom 66 = .ok (.aaload, 1) := by decide +kernel
theorem dX4_copyFrom_67 : decode cX4_copyFrom 67 = .ok (.aload_n 1, 1) := by decide +kernel
theorem dX4_copyFrom_68 : decode cX4_copyFrom 68 = .ok (.getfield 31, 3) := by decide +kernel
theorem dX4_copyFrom_71 : decode cX4_copyFrom 71 = .ok (.iload_n 2, 1) := by decide +kernel
theorem dX4_copyFrom_72 : decode cX4_copyFrom 72 = .ok (.aaload, 1) := by decide +kernel
theorem dX4_copyFrom_73 : decode cX4_copyFrom 73 = .ok (.invokevirtual 57, 3) := by decide +kernel
theorem dX4_copyFrom_76 : decode cX4_copyFrom 76 = .ok (.aload_n 0, 1) := by decide +kernel
theorem dX4_copyFrom_77 : decode cX4_copyFrom 77 = .ok (.getfield 41, 3) := by decide +kernel
theorem dX4_copyFrom_80 : decode cX4_copyFrom 80 = .ok (.iload_n 2, 1) := by decide +kernel
theorem dX4_copyFrom_81 : decode cX4_copyFrom 81 = .ok (.aaload, 1) := by decide +kernel
theorem dX4_copyFrom_82 : decode cX4_copyFrom 82 = .ok (.aload_n 1, 1) := by decide +kernel
theorem dX4_copyFrom_83 : decode cX4_copyFrom 83 = .ok (.getfield 41, 3) := by decide +kernel
theorem dX4_copyFrom_86 : decode cX4_copyFrom 86 = .ok (.iload_n 2, 1) := by decide +kernel
theorem dX4_copyFrom_87 : decode cX4_copyFrom 87 = .ok (.aaload, 1) := by decide +kernel
theorem dX4_copyFrom_88 : decode cX4_copyFrom 88 = .ok (.invokevirtual 61, 3) := by decide +kernel
theorem dX4_copyFrom_91 : decode cX4_copyFrom 91 = .ok (.aload_n 0, 1) := by decide +kernel
theorem dX4_copyFrom_92 : decode cX4_copyFrom 92 = .ok (.getfield 44, 3) := by decide +kernel
theorem dX4_copyFrom_95 : decode cX4_copyFrom 95 = .ok (.iload_n 2, 1) := by decide +kernel
theorem dX4_copyFrom_96 : decode cX4_copyFrom 96 = .ok (.aaload, 1) := by decide +kernel
theorem dX4_copyFrom_97 : decode cX4_copyFrom 97 = .ok (.aload_n 1, 1) := by decide +kernel
theorem dX4_copyFrom_98 : decode cX4_copyFrom 98 = .ok (.getfield 44, 3) := by decide +kernel
theorem dX4_copyFrom_101 : decode cX4_copyFrom 101 = .ok (.iload_n 2, 1) := by decide +kernel
theorem dX4_copyFrom_102 : decode cX4_copyFrom 102 = .ok (.aaload, 1) := by decide +kernel
theorem dX4_copyFrom_103 : decode cX4_copyFrom 103 = .ok (.invokevirtual 61, 3) := by decide +kernel
theorem dX4_copyFrom_106 : decode cX4_copyFrom 106 = .ok (.iinc 2 1, 3) := by decide +kernel
theorem dX4_copyFrom_109 : decode cX4_copyFrom 109 = .ok (.goto (-53), 3) := by decide +kernel
theorem dX4_copyFrom_112 : decode cX4_copyFrom 112 = .ok (.iconst 0, 1) := by decide +kernel
theorem dX4_copyFrom_113 : decode cX4_copyFrom 113 = .ok (.istore_n 2, 1) := by decide +kernel
theorem dX4_copyFrom_114 : decode cX4_copyFrom 114 = .ok (.iload_n 2, 1) := by decide +kernel
theorem dX4_copyFrom_115 : decode cX4_copyFrom 115 = .ok (.iconst 3, 1) := by decide +kernel
theorem dX4_copyFrom_116 : decode cX4_copyFrom 116 = .ok (.if_icmp .ge 24, 3) := by decide +kernel
theorem dX4_copyFrom_119 : decode cX4_copyFrom 119 = .ok (.aload_n 0, 1) := by decide +kernel
theorem dX4_copyFrom_120 : decode cX4_copyFrom 120 = .ok (.getfield 37, 3) := by decide +kernel
theorem dX4_copyFrom_123 : decode cX4_copyFrom 123 = .ok (.iload_n 2, 1) := by decide +kernel
theorem dX4_copyFrom_124 : decode cX4_copyFrom 124 = .ok (.aaload, 1) := by decide +kernel
theorem dX4_copyFrom_125 : decode cX4_copyFrom 125 = .ok (.aload_n 1, 1) := by decide +kernel
theorem dX4_copyFrom_126 : decode cX4_copyFrom 126 = .ok (.getfield 37, 3) := by decide +kernel
theorem dX4_copyFrom_129 : decode cX4_copyFrom 129 = .ok (.iload_n 2, 1) := by decide +kernel
theorem dX4_copyFrom_130 : decode cX4_copyFrom 130 = .ok (.aaload, 1) := by decide +kernel
theorem dX4_copyFrom_131 : decode cX4_copyFrom 131 = .ok (.invokevirtual 61, 3) := by decide +kernel
theorem dX4_copyFrom_134 : decode cX4_copyFrom 134 = .ok (.iinc 2 1, 3) := by decide +kernel
theorem dX4_copyFrom_137 : decode cX4_copyFrom 137 = .ok (.goto (-23), 3) := by decide +kernel
theorem dX4_copyFrom_140 : decode cX4_copyFrom 140 = .ok (.return_, 1) := by decide +kernel
def zX4_copyFrom (Qr : Option PV → Mem → Prop) : XZ := (RX4, 3, 82, 3, none, Qr)
noncomputable def fX4_copyFrom_b114 : Nat → Nat → Nat → Int → Mem → Option Mem
  | 0, _, _, _, _ => none
  | n + 1, o, x1, x2, F =>
    if 3 ≤ x2 then
      some F
    else
      if (0 : Int) ≤ x2 ∧ x2 < (alen (o + 4) : Int) then
        if x1 = 0 then none else
        if (0 : Int) ≤ x2 ∧ x2 < (alen (x1 + 4) : Int) then
          (fX3_copyFrom (aref (o + 4) x2.toNat) (aref (x1 + 4) x2.toNat) F).bind fun q5 =>
          fX4_copyFrom_b114 n o x1 (xw (x2 + 1)) q5
        else none
      else none
noncomputable def fX4_copyFrom_b56 : Nat → Nat → Nat → Int → Mem → Option Mem
  | 0, _, _, _, _ => none
  | n + 1, o, x1, x2, F =>
    if 2 ≤ x2 then
      fX4_copyFrom_b114 FU o x1 0 F
    else
      if (0 : Int) ≤ x2 ∧ x2 < (alen (o + 3) : Int) then
        if x1 = 0 then none else
        if (0 : Int) ≤ x2 ∧ x2 < (alen (x1 + 3) : Int) then
          (fX7_copyFrom (aref (o + 3) x2.toNat) (aref (x1 + 3) x2.toNat) F).bind fun q5 =>
          if (0 : Int) ≤ x2 ∧ x2 < (alen (o + 5) : Int) then
            if x1 = 0 then none else
            if (0 : Int) ≤ x2 ∧ x2 < (alen (x1 + 5) : Int) then
              (fX3_copyFrom (aref (o + 5) x2.toNat) (aref (x1 + 5) x2.toNat) q5).bind fun q10 =>
              if (0 : Int) ≤ x2 ∧ x2 < (alen (o + 6) : Int) then
                if x1 = 0 then none else
                if (0 : Int) ≤ x2 ∧ x2 < (alen (x1 + 6) : Int) then
                  (fX3_copyFrom (aref (o + 6) x2.toNat) (aref (x1 + 6) x2.toNat) q10).bind fun q15 =>
                  fX4_copyFrom_b56 n o x1 (xw (x2 + 1)) q15
                else none
              else none
            else none
          else none
        else none
      else none
noncomputable def fX4_copyFrom (o : Nat) (x1 : Nat) (F : Mem) : Option Mem :=
  if x1 = 0 then none else
  if (0 : Int) ≤ 0 ∧ (0 : Int) ≤ 0 ∧ (0 : Int) ≤ 600 ∧ 0 + 600 ≤ (alen (x1 + 1) : Int) ∧ 0 + 600 ≤ (alen (o + 1) : Int) ∧ bytesOk F (x1 + 1) 0 600 = true then
    if x1 = 0 then none else
    if x1 = 0 then none else
    if x1 = 0 then none else
    if x1 = 0 then none else
    if (0 : Int) ≤ 0 ∧ (0 : Int) ≤ 0 ∧ (0 : Int) ≤ 4 ∧ 0 + 4 ≤ (alen (x1 + 2) : Int) ∧ 0 + 4 ≤ (alen (o + 2) : Int) then
      fX4_copyFrom_b56 FU o x1 0 (mcopy (mset (mset (mset (mcopy F (x1 + 1) 0 (o + 1) 0 600) o 1 ((mcopy F (x1 + 1) 0 (o + 1) 0 600) x1 1)) o 2 ((mset (mcopy F (x1 + 1) 0 (o + 1) 0 600) o 1 ((mcopy F (x1 + 1) 0 (o + 1) 0 600) x1 1)) x1 2)) o 3 ((mset (mset (mcopy F (x1 + 1) 0 (o + 1) 0 600) o 1 ((mcopy F (x1 + 1) 0 (o + 1) 0 600) x1 1)) o 2 ((mset (mcopy F (x1 + 1) 0 (o + 1) 0 600) o 1 ((mcopy F (x1 + 1) 0 (o + 1) 0 600) x1 1)) x1 2)) x1 3)) (x1 + 2) 0 (o + 2) 0 4)
    else none
  else none
theorem fX4_copyFrom_b114_ok {Qr : Option PV → Mem → Prop}  : ∀ (n : Nat) (o : Nat) (x1 : Nat) (x2 : Int) (F : Mem) (res : Mem) (ho : isK o 4) (hx1 : x1 = 0 ∨ isK x1 4), fX4_copyFrom_b114 n o x1 x2 F = some res → Qr none res → PR cX4_copyFrom (zX4_copyFrom Qr) 114 [(0, vR o), (1, vR x1), (2, vI x2)] [] F := by
  intro n
  induction n with
  | zero => intro o x1 x2 F res ho hx1 h hq; exact nomatch (show (none : Option _) = some _ from h)
  | succ n ih =>
    intro o x1 x2 F res ho hx1 h hq
    refine s_iload_n (j := 2) dX4_copyFrom_114 rfl rfl ?_
    refine s_iconst dX4_copyFrom_115 (cin rfl) ?_
    refine s_icmp_ge (tgt := 140) dX4_copyFrom_116 rfl (fun hc1 => ?_) (fun hc1 => ?_)
    · have h := ifp hc1 h
      have h := Option.some.inj h
      subst h
      exact s_return dX4_copyFrom_140 rfl hq
    · have h := ifn hc1 h
      refine s_aload_n (j := 0) dX4_copyFrom_119 rfl rfl ?_
      refine s_getR dX4_copyFrom_120 flX4_37 ho ?_
      refine s_iload_n (j := 2) dX4_copyFrom_123 rfl rfl ?_
      obtain ⟨hb2, h⟩ := gd h
      refine s_aaload dX4_copyFrom_124 (trX4_6 ho) hb2.1 hb2.2 ?_
      refine s_aload_n (j := 1) dX4_copyFrom_125 rfl rfl ?_
      obtain ⟨hn3, h⟩ := gdn h
      refine s_getR dX4_copyFrom_126 flX4_37 (hx1.resolve_left hn3) ?_
      refine s_iload_n (j := 2) dX4_copyFrom_129 rfl rfl ?_
      obtain ⟨hb4, h⟩ := gd h
      refine s_aaload dX4_copyFrom_130 (trX4_6 (hx1.resolve_left hn3)) hb4.1 hb4.2 ?_
      obtain ⟨q5, hv6, h⟩ := bnd h
      refine s_callV (As := [vR (aref (x1 + 4) x2.toNat)]) (rest := []) (r := none) (F' := q5) dX4_copyFrom_131 (clX4_61 (Nat.le_of_ble_eq_true rfl) (Nat.le_of_ble_eq_true rfl)) (aref_K (trX4_6 ho) (tolt hb2)) rfl ⟨_, _, _, rfl, (aref_K (trX4_6 ho) (tolt hb2)), (Or.inr (aref_K (trX4_6 (hx1.resolve_left hn3)) (tolt hb4))), hv6, rfl, rfl⟩ rfl (Nat.le_of_ble_eq_true rfl) ?_
      refine s_iinc (ls' := [(2, vI (xw (x2 + 1))), (0, vR o), (1, vR x1)]) (j := 2) dX4_copyFrom_134 rfl (Nat.le_of_ble_eq_true rfl) rfl ?_
      refine s_goto (tgt := 114) dX4_copyFrom_137 rfl ?_
      exact s_sub (ks := [1, 2, 0]) rfl (ih o x1 (xw (x2 + 1)) q5 _ ho hx1 h hq)
theorem fX4_copyFrom_b56_ok {Qr : Option PV → Mem → Prop}  : ∀ (n : Nat) (o : Nat) (x1 : Nat) (x2 : Int) (F : Mem) (res : Mem) (ho : isK o 4) (hx1 : x1 = 0 ∨ isK x1 4), fX4_copyFrom_b56 n o x1 x2 F = some res → Qr none res → PR cX4_copyFrom (zX4_copyFrom Qr) 56 [(0, vR o), (1, vR x1), (2, vI x2)] [] F := by
  intro n
  induction n with
  | zero => intro o x1 x2 F res ho hx1 h hq; exact nomatch (show (none : Option _) = some _ from h)
  | succ n ih =>
    intro o x1 x2 F res ho hx1 h hq
    refine s_iload_n (j := 2) dX4_copyFrom_56 rfl rfl ?_
    refine s_iconst dX4_copyFrom_57 (cin rfl) ?_
    refine s_icmp_ge (tgt := 112) dX4_copyFrom_58 rfl (fun hc1 => ?_) (fun hc1 => ?_)
    · have h := ifp hc1 h
      refine s_iconst dX4_copyFrom_112 (cin rfl) ?_
      refine s_istore_n (ls' := [(2, vI 0), (0, vR o), (1, vR x1)]) dX4_copyFrom_113 rfl (Nat.le_of_ble_eq_true rfl) rfl ?_
      exact s_sub (ks := [1, 2, 0]) rfl (fX4_copyFrom_b114_ok FU o x1 0 F _ ho hx1 h hq)
    · have h := ifn hc1 h
      refine s_aload_n (j := 0) dX4_copyFrom_61 rfl rfl ?_
      refine s_getR dX4_copyFrom_62 flX4_31 ho ?_
      refine s_iload_n (j := 2) dX4_copyFrom_65 rfl rfl ?_
      obtain ⟨hb2, h⟩ := gd h
      refine s_aaload dX4_copyFrom_66 (trX4_5 ho) hb2.1 hb2.2 ?_
      refine s_aload_n (j := 1) dX4_copyFrom_67 rfl rfl ?_
      obtain ⟨hn3, h⟩ := gdn h
      refine s_getR dX4_copyFrom_68 flX4_31 (hx1.resolve_left hn3) ?_
      refine s_iload_n (j := 2) dX4_copyFrom_71 rfl rfl ?_
      obtain ⟨hb4, h⟩ := gd h
      refine s_aaload dX4_copyFrom_72 (trX4_5 (hx1.resolve_left hn3)) hb4.1 hb4.2 ?_
      obtain ⟨q5, hv6, h⟩ := bnd h
      refine s_callV (As := [vR (aref (x1 + 3) x2.toNat)]) (rest := []) (r := none) (F' := q5) dX4_copyFrom_73 (clX4_57 (Nat.le_of_ble_eq_true rfl) (Nat.le_of_ble_eq_true rfl)) (aref_K (trX4_5 ho) (tolt hb2)) rfl ⟨_, _, _, rfl, (aref_K (trX4_5 ho) (tolt hb2)), (Or.inr (aref_K (trX4_5 (hx1.resolve_left hn3)) (tolt hb4))), hv6, rfl, rfl⟩ rfl (Nat.le_of_ble_eq_true rfl) ?_
      refine s_aload_n (j := 0) dX4_copyFrom_76 rfl rfl ?_
      refine s_getR dX4_copyFrom_77 flX4_41 ho ?_
      refine s_iload_n (j := 2) dX4_copyFrom_80 rfl rfl ?_
      obtain ⟨hb7, h⟩ := gd h
      refine s_aaload dX4_copyFrom_81 (trX4_7 ho) hb7.1 hb7.2 ?_
      refine s_aload_n (j := 1) dX4_copyFrom_82 rfl rfl ?_
      obtain ⟨hn8, h⟩ := gdn h
      refine s_getR dX4_copyFrom_83 flX4_41 (hx1.resolve_left hn8) ?_
      refine s_iload_n (j := 2) dX4_copyFrom_86 rfl rfl ?_
      obtain ⟨hb9, h⟩ := gd h
      refine s_aaload dX4_copyFrom_87 (trX4_7 (hx1.resolve_left hn8)) hb9.1 hb9.2 ?_
      obtain ⟨q10, hv11, h⟩ := bnd h
      refine s_callV (As := [vR (aref (x1 + 5) x2.toNat)]) (rest := []) (r := none) (F' := q10) dX4_copyFrom_88 (clX4_61 (Nat.le_of_ble_eq_true rfl) (Nat.le_of_ble_eq_true rfl)) (aref_K (trX4_7 ho) (tolt hb7)) rfl ⟨_, _, _, rfl, (aref_K (trX4_7 ho) (tolt hb7)), (Or.inr (aref_K (trX4_7 (hx1.resolve_left hn8)) (tolt hb9))), hv11, rfl, rfl⟩ rfl (Nat.le_of_ble_eq_true rfl) ?_
      refine s_aload_n (j := 0) dX4_copyFrom_91 rfl rfl ?_
      refine s_getR dX4_copyFrom_92 flX4_44 ho ?_
      refine s_iload_n (j := 2) dX4_copyFrom_95 rfl rfl ?_
      obtain ⟨hb12, h⟩ := gd h
      refine s_aaload dX4_copyFrom_96 (trX4_8 ho) hb12.1 hb12.2 ?_
      refine s_aload_n (j := 1) dX4_copyFrom_97 rfl rfl ?_
      obtain ⟨hn13, h⟩ := gdn h
      refine s_getR dX4_copyFrom_98 flX4_44 (hx1.resolve_left hn13) ?_
      refine s_iload_n (j := 2) dX4_copyFrom_101 rfl rfl ?_
      obtain ⟨hb14, h⟩ := gd h
      refine s_aaload dX4_copyFrom_102 (trX4_8 (hx1.resolve_left hn13)) hb14.1 hb14.2 ?_
      obtain ⟨q15, hv16, h⟩ := bnd h
      refine s_callV (As := [vR (aref (x1 + 6) x2.toNat)]) (rest := []) (r := none) (F' := q15) dX4_copyFrom_103 (clX4_61 (Nat.le_of_ble_eq_true rfl) (Nat.le_of_ble_eq_true rfl)) (aref_K (trX4_8 ho) (tolt hb12)) rfl ⟨_, _, _, rfl, (aref_K (trX4_8 ho) (tolt hb12)), (Or.inr (aref_K (trX4_8 (hx1.resolve_left hn13)) (tolt hb14))), hv16, rfl, rfl⟩ rfl (Nat.le_of_ble_eq_true rfl) ?_
      refine s_iinc (ls' := [(2, vI (xw (x2 + 1))), (0, vR o), (1, vR x1)]) (j := 2) dX4_copyFrom_106 rfl (Nat.le_of_ble_eq_true rfl) rfl ?_
      refine s_goto (tgt := 56) dX4_copyFrom_109 rfl ?_
      exact s_sub (ks := [1, 2, 0]) rfl (ih o x1 (xw (x2 + 1)) q15 _ ho hx1 h hq)
theorem fX4_copyFrom_ok {Qr : Option PV → Mem → Prop} : ∀ (o : Nat) (x1 : Nat) (F : Mem) (res : Mem) (ho : isK o 4) (hx1 : x1 = 0 ∨ isK x1 4), fX4_copyFrom o x1 F = some res → Qr none res → PR cX4_copyFrom (zX4_copyFrom Qr) 0 [(0, vR o), (1, vR x1)] [] F := by
  intro o x1 F res ho hx1 h hq
  refine s_aload_n (j := 1) dX4_copyFrom_0 rfl rfl ?_
  obtain ⟨hn1, h⟩ := gdn h
  refine s_getR dX4_copyFrom_1 flX4_9 (hx1.resolve_left hn1) ?_
  refine s_iconst dX4_copyFrom_4 (cin rfl) ?_
  refine s_aload_n (j := 0) dX4_copyFrom_5 rfl rfl ?_
  refine s_getR dX4_copyFrom_6 flX4_9 ho ?_
  refine s_iconst dX4_copyFrom_9 (cin rfl) ?_
  refine s_sipush dX4_copyFrom_10 rfl (cin rfl) ?_
  obtain ⟨hb2, h⟩ := gd h
  refine s_acopy dX4_copyFrom_13 mtX4_51 (Or.inr rfl) (trX4_0 (hx1.resolve_left hn1)) (trX4_0 ho) hb2.1 hb2.2.1 hb2.2.2.1 hb2.2.2.2.1 hb2.2.2.2.2.1 (fun _ => bytesOk_of hb2.2.2.2.1 hb2.2.2.2.2.2) (Nat.le_of_ble_eq_true rfl) ?_
  refine s_aload_n (j := 0) dX4_copyFrom_16 rfl rfl ?_
  refine s_aload_n (j := 1) dX4_copyFrom_17 rfl rfl ?_
  obtain ⟨hn3, h⟩ := gdn h
  refine s_getI dX4_copyFrom_18 flX4_15 (hx1.resolve_left hn3) ?_
  refine s_putI dX4_copyFrom_21 flX4_15 fpX4_1 ho ?_
  refine s_aload_n (j := 0) dX4_copyFrom_24 rfl rfl ?_
  refine s_aload_n (j := 1) dX4_copyFrom_25 rfl rfl ?_
  obtain ⟨hn4, h⟩ := gdn h
  refine s_getI dX4_copyFrom_26 flX4_19 (hx1.resolve_left hn4) ?_
  refine s_putI dX4_copyFrom_29 flX4_19 fpX4_2 ho ?_
  refine s_aload_n (j := 0) dX4_copyFrom_32 rfl rfl ?_
  refine s_aload_n (j := 1) dX4_copyFrom_33 rfl rfl ?_
  obtain ⟨hn5, h⟩ := gdn h
  refine s_getI dX4_copyFrom_34 flX4_22 (hx1.resolve_left hn5) ?_
  refine s_putI dX4_copyFrom_37 flX4_22 fpX4_3 ho ?_
  refine s_aload_n (j := 1) dX4_copyFrom_40 rfl rfl ?_
  obtain ⟨hn6, h⟩ := gdn h
  refine s_getR dX4_copyFrom_41 flX4_25 (hx1.resolve_left hn6) ?_
  refine s_iconst dX4_copyFrom_44 (cin rfl) ?_
  refine s_aload_n (j := 0) dX4_copyFrom_45 rfl rfl ?_
  refine s_getR dX4_copyFrom_46 flX4_25 ho ?_
  refine s_iconst dX4_copyFrom_49 (cin rfl) ?_
  refine s_iconst dX4_copyFrom_50 (cin rfl) ?_
  obtain ⟨hb7, h⟩ := gd h
  refine s_acopy dX4_copyFrom_51 mtX4_51 (Or.inl rfl) (trX4_4 (hx1.resolve_left hn6)) (trX4_4 ho) hb7.1 hb7.2.1 hb7.2.2.1 hb7.2.2.2.1 hb7.2.2.2.2 (fun z => absurd z (by decide)) (Nat.le_of_ble_eq_true rfl) ?_
  refine s_iconst dX4_copyFrom_54 (cin rfl) ?_
  refine s_istore_n (ls' := [(2, vI 0), (0, vR o), (1, vR x1)]) dX4_copyFrom_55 rfl (Nat.le_of_ble_eq_true rfl) rfl ?_
  exact s_sub (ks := [1, 2, 0]) rfl (fX4_copyFrom_b56_ok FU o x1 0 (mcopy (mset (mset (mset (mcopy F (x1 + 1) 0 (o + 1) 0 600) o 1 ((mcopy F (x1 + 1) 0 (o + 1) 0 600) x1 1)) o 2 ((mset (mcopy F (x1 + 1) 0 (o + 1) 0 600) o 1 ((mcopy F (x1 + 1) 0 (o + 1) 0 600) x1 1)) x1 2)) o 3 ((mset (mset (mcopy F (x1 + 1) 0 (o + 1) 0 600) o 1 ((mcopy F (x1 + 1) 0 (o + 1) 0 600) x1 1)) o 2 ((mset (mcopy F (x1 + 1) 0 (o + 1) 0 600) o 1 ((mcopy F (x1 + 1) 0 (o + 1) 0 600) x1 1)) x1 2)) x1 3)) (x1 + 2) 0 (o + 2) 0 4) _ ho hx1 h hq)
def gX4_copyFrom : XG := fun As F r F' => ∃ o : Nat, ∃ x1 : Nat, ∃ res : Mem, As = [vR o, vR x1] ∧ isK o 4 ∧ (x1 = 0 ∨ isK x1 4) ∧ fX4_copyFrom o x1 F = some res ∧ r = none ∧ F' = res
theorem ctX4_copyFrom : xCT yX4_copyFrom cX4_copyFrom 3 (none) 3 82 gX4_copyFrom := xmet (by decide +kernel) (fun As F r F' hg => by obtain ⟨o, x1, res, rfl, ho, hx1, h, rfl, rfl⟩ := hg; exact Nat.le_of_ble_eq_true rfl) (fun As F r F' hg => by obtain ⟨o, x1, res, rfl, ho, hx1, h, rfl, rfl⟩ := hg; exact fX4_copyFrom_ok o x1 _ _ ho hx1 h ⟨rfl, rfl⟩)
theorem mcX4_copyFrom : Cond.code yX4_copyFrom cX4_copyFrom 3 (none) ∈ xw_T ∧ Cond.initialized yX4_copyFrom.cls ∈ xw_T ∧ Cond.instanceMethod yX4_copyFrom ∈ xw_T ∧ Cond.selects yX4_copyFrom.cls yX4_copyFrom yX4_copyFrom ∈ xw_T := ⟨(xinT 811 (by decide +kernel) (by decide +kernel)), (xinT 117 (by decide +kernel) (by decide +kernel)), (xinT 809 (by decide +kernel) (by decide +kernel)), (xinT 810 (by decide +kernel) (by decide +kernel))⟩
theorem clX9_164 {fr lo : Nat} (h1 : 3 + 1 ≤ fr) (h2 : 8 + (3 + 11) + 82 ≤ lo) : xCall RX9 fr lo 0 164 4 1 gX4_copyFrom := ⟨_, _, _, _, _, _, ctX4_copyFrom, h1, h2, mcX4_copyFrom.1, (xinT 808 (by decide +kernel) (by decide +kernel)), mcX4_copyFrom.2.1, ⟨by decide +kernel, by decide +kernel, by decide +kernel⟩, by rw [if_pos rfl]; exact ⟨mcX4_copyFrom.2.2.1, mcX4_copyFrom.2.2.2, _, _, rfl⟩⟩
theorem dX4_append_0 : decode cX4_append 0 = .ok (.bipush 24, 2) := by decide +kernel
theorem dX4_append_2 : decode cX4_append 2 = .ok (.istore_n 2, 1) := by decide +kernel
theorem dX4_append_3 : decode cX4_append 3 = .ok (.iload_n 2, 1) := by decide +kernel
theorem dX4_append_4 : decode cX4_append 4 = .ok (.ifCond .lt 42, 3) := by decide +kernel
theorem dX4_append_7 : decode cX4_append 7 = .ok (.aload_n 0, 1) := by decide +kernel
theorem dX4_append_8 : decode cX4_append 8 = .ok (.getfield 15, 3) := by decide +kernel
theorem dX4_append_11 : decode cX4_append 11 = .ok (.sipush 600, 3) := by decide +kernel
theorem dX4_append_14 : decode cX4_append 14 = .ok (.if_icmp .ge 26, 3) := by decide +kernel
theorem dX4_append_17 : decode cX4_append 17 = .ok (.aload_n 0, 1) := by decide +kernel
theorem dX4_append_18 : decode cX4_append 18 = .ok (.getfield 9, 3) := by decide +kernel
theorem dX4_append_21 : decode cX4_append 21 = .ok (.aload_n 0, 1) := by decide +kernel
theorem dX4_append_22 : decode cX4_append 22 = .ok (.getfield 15, 3) := by decide +kernel
theorem dX4_append_25 : decode cX4_append 25 = .ok (.iload_n 1, 1) := by decide +kernel
theorem dX4_append_26 : decode cX4_append 26 = .ok (.iload_n 2, 1) := by decide +kernel
theorem dX4_append_27 : decode cX4_append 27 = .ok (.iushr, 1) := by decide +kernel
theorem dX4_append_28 : decode cX4_append 28 = .ok (.i2b, 1) := by decide +kernel
theorem dX4_append_29 : decode cX4_append 29 = .ok (.bastore, 1) := by decide +kernel
theorem dX4_append_30 : decode cX4_append 30 = .ok (.aload_n 0, 1) := by decide +kernel
theorem dX4_append_31 : decode cX4_append 31 = .ok (.dup, 1) := by decide +kernel
theorem dX4_append_32 : decode cX4_append 32 = .ok (.getfield 15, 3) := by decide +kernel
theorem dX4_append_35 : decode cX4_append 35 = .ok (.iconst 1, 1) := by decide +kernel
theorem dX4_append_36 : decode cX4_append 36 = .ok (.iadd, 1) := by decide +kernel
theorem dX4_append_37 : decode cX4_append 37 = .ok (.putfield 15, 3) := by decide +kernel
theorem dX4_append_40 : decode cX4_append 40 = .ok (.iinc 2 (-8), 3) := by decide +kernel
theorem dX4_append_43 : decode cX4_append 43 = .ok (.goto (-40), 3) := by decide +kernel
theorem dX4_append_46 : decode cX4_append 46 = .ok (.return_, 1) := by decide +kernel
def zX4_append (Qr : Option PV → Mem → Prop) : XZ := (RX4, 0, 0, 3, none, Qr)
noncomputable def fX4_append_b3 : Nat → Nat → Int → Int → Mem → Option Mem
  | 0, _, _, _, _ => none
  | n + 1, o, x1, x2, F =>
    if x2 < 0 then
      some F
    else
      if 600 ≤ (F o 1) then
        fX4_append_b3 n o x1 (xw (x2 + (-8))) F
      else
        if (0 : Int) ≤ (F o 1) ∧ (F o 1) < (alen (o + 1) : Int) then
          fX4_append_b3 n o x1 (xw (x2 + (-8))) (mset (mset F (o + 1) (F o 1).toNat (xi2b (xi2b (xushr x1 x2)))) o 1 (xw (((mset F (o + 1) (F o 1).toNat (xi2b (xi2b (xushr x1 x2)))) o 1) + 1)))
        else none
noncomputable def fX4_append (o : Nat) (x1 : Int) (F : Mem) : Option Mem :=
  fX4_append_b3 FU o x1 24 F
theorem fX4_append_b3_ok {Qr : Option PV → Mem → Prop}  : ∀ (n : Nat) (o : Nat) (x1 : Int) (x2 : Int) (F : Mem) (res : Mem) (ho : isK o 4), fX4_append_b3 n o x1 x2 F = some res → Qr none res → PR cX4_append (zX4_append Qr) 3 [(0, vR o), (1, vI x1), (2, vI x2)] [] F := by
  intro n
  induction n with
  | zero => intro o x1 x2 F res ho h hq; exact nomatch (show (none : Option _) = some _ from h)
  | succ n ih =>
    intro o x1 x2 F res ho h hq
    refine s_iload_n (j := 2) dX4_append_3 rfl rfl ?_
    refine s_if_lt (tgt := 46) dX4_append_4 rfl (fun hc1 => ?_) (fun hc1 => ?_)
    · have h := ifp hc1 h
      have h := Option.some.inj h
      subst h
      exact s_return dX4_append_46 rfl hq
    · have h := ifn hc1 h
      refine s_aload_n (j := 0) dX4_append_7 rfl rfl ?_
      refine s_getI dX4_append_8 flX4_15 ho ?_
      refine s_sipush dX4_append_11 rfl (cin rfl) ?_
      refine s_icmp_ge (tgt := 40) dX4_append_14 rfl (fun hc2 => ?_) (fun hc2 => ?_)
      · have h := ifp hc2 h
        refine s_iinc (ls' := [(2, vI (xw (x2 + (-8)))), (0, vR o), (1, vI x1)]) (j := 2) dX4_append_40 rfl (Nat.le_of_ble_eq_true rfl) rfl ?_
        refine s_goto (tgt := 3) dX4_append_43 rfl ?_
        exact s_sub (ks := [1, 2, 0]) rfl (ih o x1 (xw (x2 + (-8))) F _ ho h hq)
      · have h := ifn hc2 h
        refine s_aload_n (j := 0) dX4_append_17 rfl rfl ?_
        refine s_getR dX4_append_18 flX4_9 ho ?_
        refine s_aload_n (j := 0) dX4_append_21 rfl rfl ?_
        refine s_getI dX4_append_22 flX4_15 ho ?_
        refine s_iload_n (j := 1) dX4_append_25 rfl rfl ?_
        refine s_iload_n (j := 2) dX4_append_26 rfl rfl ?_
        refine s_iushr dX4_append_27 ?_
        refine s_i2b dX4_append_28 ?_
        obtain ⟨hb3, h⟩ := gd h
        refine s_bastore dX4_append_29 (trX4_0 ho) hb3.1 hb3.2 ?_
        refine s_aload_n (j := 0) dX4_append_30 rfl rfl ?_
        refine s_dup dX4_append_31 rfl ?_
        refine s_getI dX4_append_32 flX4_15 ho ?_
        refine s_iconst dX4_append_35 (cin rfl) ?_
        refine s_iadd dX4_append_36 ?_
        refine s_putI dX4_append_37 flX4_15 fpX4_1 ho ?_
        refine s_iinc (ls' := [(2, vI (xw (x2 + (-8)))), (0, vR o), (1, vI x1)]) (j := 2) dX4_append_40 rfl (Nat.le_of_ble_eq_true rfl) rfl ?_
        refine s_goto (tgt := 3) dX4_append_43 rfl ?_
        exact s_sub (ks := [1, 2, 0]) rfl (ih o x1 (xw (x2 + (-8))) (mset (mset F (o + 1) (F o 1).toNat (xi2b (xi2b (xushr x1 x2)))) o 1 (xw (((mset F (o + 1) (F o 1).toNat (xi2b (xi2b (xushr x1 x2)))) o 1) + 1))) _ ho h hq)
theorem fX4_append_ok {Qr : Option PV → Mem → Prop} : ∀ (o : Nat) (x1 : Int) (F : Mem) (res : Mem) (ho : isK o 4), fX4_append o x1 F = some res → Qr none res → PR cX4_append (zX4_append Qr) 0 [(0, vR o), (1, vI x1)] [] F := by
  intro o x1 F res ho h hq
  refine s_bipush dX4_append_0 rfl (cin rfl) ?_
  refine s_istore_n (ls' := [(2, vI 24), (0, vR o), (1, vI x1)]) dX4_append_2 rfl (Nat.le_of_ble_eq_true rfl) rfl ?_
  exact s_sub (ks := [1, 2, 0]) rfl (fX4_append_b3_ok FU o x1 24 F _ ho h hq)
def gX4_append : XG := fun As F r F' => ∃ o : Nat, ∃ x1 : Int, ∃ res : Mem, As = [vR o, vI x1] ∧ isK o 4 ∧ fX4_append o x1 F = some res ∧ r = none ∧ F' = res
theorem ctX4_append : xCT yX4_append cX4_append 3 (none) 0 0 gX4_append := xmet (by decide +kernel) (fun As F r F' hg => by obtain ⟨o, x1, res, rfl, ho, h, rfl, rfl⟩ := hg; exact Nat.le_of_ble_eq_true rfl) (fun As F r F' hg => by obtain ⟨o, x1, res, rfl, ho, h, rfl, rfl⟩ := hg; exact fX4_append_ok o x1 _ _ ho h ⟨rfl, rfl⟩)
theorem mcX4_append : Cond.code yX4_append cX4_append 3 (none) ∈ xw_T ∧ Cond.initialized yX4_append.cls ∈ xw_T ∧ Cond.instanceMethod yX4_append ∈ xw_T ∧ Cond.selects yX4_append.cls yX4_append yX4_append ∈ xw_T := ⟨(xinT 529 (by decide +kernel) (by decide +kernel)), (xinT 117 (by decide +kernel) (by decide +kernel)), (xinT 527 (by decide +kernel) (by decide +kernel)), (xinT 528 (by decide +kernel) (by decide +kernel))⟩
theorem clX9_73 {fr lo : Nat} (h1 : 0 + 1 ≤ fr) (h2 : 8 + (3 + 11) + 0 ≤ lo) : xCall RX9 fr lo 0 73 4 1 gX4_append := ⟨_, _, _, _, _, _, ctX4_append, h1, h2, mcX4_append.1, (xinT 526 (by decide +kernel) (by decide +kernel)), mcX4_append.2.1, ⟨by decide +kernel, by decide +kernel, by decide +kernel⟩, by rw [if_pos rfl]; exact ⟨mcX4_append.2.2.1, mcX4_append.2.2.2, _, _, rfl⟩⟩
theorem dX4_takeTape_0 : decode cX4_takeTape 0 = .ok (.aload_n 0, 1) := by decide +kernel
theorem dX4_takeTape_1 : decode cX4_takeTape 1 = .ok (.iconst 0, 1) := by decide +kernel
theorem dX4_takeTape_2 : decode cX4_takeTape 2 = .ok (.putfield 15, 3) := by decide +kernel
theorem dX4_takeTape_5 : decode cX4_takeTape 5 = .ok (.aload_n 0, 1) := by decide +kernel
theorem dX4_takeTape_6 : decode cX4_takeTape 6 = .ok (.iload_n 1, 1) := by decide +kernel
theorem dX4_takeTape_7 : decode cX4_takeTape 7 = .ok (.putfield 19, 3) := by decide +kernel
theorem dX4_takeTape_10 : decode cX4_takeTape 10 = .ok (.aload_n 0, 1) := by decide +kernel
theorem dX4_takeTape_11 : decode cX4_takeTape 11 = .ok (.iload_n 2, 1) := by decide +kernel
theorem dX4_takeTape_12 : decode cX4_takeTape 12 = .ok (.putfield 22, 3) := by decide +kernel
theorem dX4_takeTape_15 : decode cX4_takeTape 15 = .ok (.return_, 1) := by decide +kernel
def zX4_takeTape (Qr : Option PV → Mem → Prop) : XZ := (RX4, 0, 0, 3, none, Qr)
noncomputable def fX4_takeTape (o : Nat) (x1 : Int) (x2 : Int) (F : Mem) : Mem :=
  mset (mset (mset F o 1 0) o 2 x1) o 3 x2
theorem fX4_takeTape_ok {Qr : Option PV → Mem → Prop} : ∀ (o : Nat) (x1 : Int) (x2 : Int) (F : Mem) (res : Mem) (ho : isK o 4), fX4_takeTape o x1 x2 F = res → Qr none res → PR cX4_takeTape (zX4_takeTape Qr) 0 [(0, vR o), (1, vI x1), (2, vI x2)] [] F := by
  intro o x1 x2 F res ho h hq
  refine s_aload_n (j := 0) dX4_takeTape_0 rfl rfl ?_
  refine s_iconst dX4_takeTape_1 (cin rfl) ?_
  refine s_putI dX4_takeTape_2 flX4_15 fpX4_1 ho ?_
  refine s_aload_n (j := 0) dX4_takeTape_5 rfl rfl ?_
  refine s_iload_n (j := 1) dX4_takeTape_6 rfl rfl ?_
  refine s_putI dX4_takeTape_7 flX4_19 fpX4_2 ho ?_
  refine s_aload_n (j := 0) dX4_takeTape_10 rfl rfl ?_
  refine s_iload_n (j := 2) dX4_takeTape_11 rfl rfl ?_
  refine s_putI dX4_takeTape_12 flX4_22 fpX4_3 ho ?_
  subst h
  exact s_return dX4_takeTape_15 rfl hq
def gX4_takeTape : XG := fun As F r F' => ∃ o : Nat, ∃ x1 : Int, ∃ x2 : Int, ∃ res : Mem, As = [vR o, vI x1, vI x2] ∧ isK o 4 ∧ fX4_takeTape o x1 x2 F = res ∧ r = none ∧ F' = res
theorem ctX4_takeTape : xCT yX4_takeTape cX4_takeTape 3 (none) 0 0 gX4_takeTape := xmet (by decide +kernel) (fun As F r F' hg => by obtain ⟨o, x1, x2, res, rfl, ho, h, rfl, rfl⟩ := hg; exact Nat.le_of_ble_eq_true rfl) (fun As F r F' hg => by obtain ⟨o, x1, x2, res, rfl, ho, h, rfl, rfl⟩ := hg; exact fX4_takeTape_ok o x1 x2 _ _ ho h ⟨rfl, rfl⟩)
theorem mcX4_takeTape : Cond.code yX4_takeTape cX4_takeTape 3 (none) ∈ xw_T ∧ Cond.initialized yX4_takeTape.cls ∈ xw_T ∧ Cond.instanceMethod yX4_takeTape ∈ xw_T ∧ Cond.selects yX4_takeTape.cls yX4_takeTape yX4_takeTape ∈ xw_T := ⟨(xinT 553 (by decide +kernel) (by decide +kernel)), (xinT 117 (by decide +kernel) (by decide +kernel)), (xinT 551 (by decide +kernel) (by decide +kernel)), (xinT 552 (by decide +kernel) (by decide +kernel))⟩
theorem clX9_81 {fr lo : Nat} (h1 : 0 + 1 ≤ fr) (h2 : 8 + (3 + 11) + 0 ≤ lo) : xCall RX9 fr lo 0 81 4 2 gX4_takeTape := ⟨_, _, _, _, _, _, ctX4_takeTape, h1, h2, mcX4_takeTape.1, (xinT 550 (by decide +kernel) (by decide +kernel)), mcX4_takeTape.2.1, ⟨by decide +kernel, by decide +kernel, by decide +kernel⟩, by rw [if_pos rfl]; exact ⟨mcX4_takeTape.2.2.1, mcX4_takeTape.2.2.2, _, _, rfl⟩⟩
theorem dX4_isThere_0 : decode cX4_isThere 0 = .ok (.iload_n 2, 1) := by decide +kernel
theorem dX4_isThere_1 : decode cX4_isThere 1 = .ok (.ifCond .lt 17, 3) := by decide +kernel
theorem dX4_isThere_4 : decode cX4_isThere 4 = .ok (.iload_n 2, 1) := by decide +kernel
theorem dX4_isThere_5 : decode cX4_isThere 5 = .ok (.aload_n 0, 1) := by decide +kernel
theorem dX4_isThere_6 : decode cX4_isThere 6 = .ok (.getfield 25, 3) := by decide +kernel
theorem dX4_isThere_9 : decode cX4_isThere 9 = .ok (.iload_n 1, 1) := by decide +kernel
theorem dX4_isThere_10 : decode cX4_isThere 10 = .ok (.iaload, 1) := by decide +kernel
theorem dX4_isThere_11 : decode cX4_isThere 11 = .ok (.if_icmp .ge 7, 3) := by decide +kernel
theorem dX4_isThere_14 : decode cX4_isThere 14 = .ok (.iconst 1, 1) := by decide +kernel
theorem dX4_isThere_15 : decode cX4_isThere 15 = .ok (.goto 4, 3) := by decide +kernel
theorem dX4_isThere_18 : decode cX4_isThere 18 = .ok (.iconst 0, 1) := by decide +kernel
theorem dX4_isThere_19 : decode cX4_isThere 19 = .ok (.ireturn, 1) := by decide +kernel
def zX4_isThere (Qr : Option PV → Mem → Prop) : XZ := (RX4, 0, 0, 3, some FieldType.boolean, Qr)
noncomputable def fX4_isThere (o : Nat) (x1 : Int) (x2 : Int) (F : Mem) : Option Int :=
  if x2 < 0 then
    some 0
  else
    if (0 : Int) ≤ x1 ∧ x1 < (alen (o + 2) : Int) then
      if (F (o + 2) x1.toNat) ≤ x2 then
        some 0
      else
        some 1
    else none
theorem fX4_isThere_ok {Qr : Option PV → Mem → Prop} : ∀ (o : Nat) (x1 : Int) (x2 : Int) (F : Mem) (res : Int) (ho : isK o 4), fX4_isThere o x1 x2 F = some res → Qr (some (vI res)) F → PR cX4_isThere (zX4_isThere Qr) 0 [(0, vR o), (1, vI x1), (2, vI x2)] [] F := by
  intro o x1 x2 F res ho h hq
  refine s_iload_n (j := 2) dX4_isThere_0 rfl rfl ?_
  refine s_if_lt (tgt := 18) dX4_isThere_1 rfl (fun hc1 => ?_) (fun hc1 => ?_)
  · have h := ifp hc1 h
    refine s_iconst dX4_isThere_18 (cin rfl) ?_
    have h := Option.some.inj h
    subst h
    exact s_zreturn dX4_isThere_19 rfl (Or.inl rfl) hq
  · have h := ifn hc1 h
    refine s_iload_n (j := 2) dX4_isThere_4 rfl rfl ?_
    refine s_aload_n (j := 0) dX4_isThere_5 rfl rfl ?_
    refine s_getR dX4_isThere_6 flX4_25 ho ?_
    refine s_iload_n (j := 1) dX4_isThere_9 rfl rfl ?_
    obtain ⟨hb2, h⟩ := gd h
    refine s_iaload dX4_isThere_10 (trX4_4 ho) hb2.1 hb2.2 ?_
    refine s_icmp_ge (tgt := 18) dX4_isThere_11 rfl (fun hc3 => ?_) (fun hc3 => ?_)
    · have h := ifp hc3 h
      refine s_iconst dX4_isThere_18 (cin rfl) ?_
      have h := Option.some.inj h
      subst h
      exact s_zreturn dX4_isThere_19 rfl (Or.inl rfl) hq
    · have h := ifn hc3 h
      refine s_iconst dX4_isThere_14 (cin rfl) ?_
      refine s_goto (tgt := 19) dX4_isThere_15 rfl ?_
      have h := Option.some.inj h
      subst h
      exact s_zreturn dX4_isThere_19 rfl (Or.inr rfl) hq
def gX4_isThere : XG := fun As F r F' => ∃ o : Nat, ∃ x1 : Int, ∃ x2 : Int, ∃ res : Int, As = [vR o, vI x1, vI x2] ∧ isK o 4 ∧ fX4_isThere o x1 x2 F = some res ∧ r = some (vI res) ∧ F' = F
theorem ctX4_isThere : xCT yX4_isThere cX4_isThere 3 (some FieldType.boolean) 0 0 gX4_isThere := xmet (by decide +kernel) (fun As F r F' hg => by obtain ⟨o, x1, x2, res, rfl, ho, h, rfl, rfl⟩ := hg; exact Nat.le_of_ble_eq_true rfl) (fun As F r F' hg => by obtain ⟨o, x1, x2, res, rfl, ho, h, rfl, rfl⟩ := hg; exact fX4_isThere_ok o x1 x2 _ _ ho h ⟨rfl, rfl⟩)
theorem mcX4_isThere : Cond.code yX4_isThere cX4_isThere 3 (some FieldType.boolean) ∈ xw_T ∧ Cond.initialized yX4_isThere.cls ∈ xw_T ∧ Cond.instanceMethod yX4_isThere ∈ xw_T ∧ Cond.selects yX4_isThere.cls yX4_isThere yX4_isThere ∈ xw_T := ⟨(xinT 545 (by decide +kernel) (by decide +kernel)), (xinT 117 (by decide +kernel) (by decide +kernel)), (xinT 544 (by decide +kernel) (by decide +kernel)), (xinT 0 (by decide +kernel) (by decide +kernel))⟩
theorem clX4_64 {fr lo : Nat} (h1 : 0 + 1 ≤ fr) (h2 : 8 + (3 + 11) + 0 ≤ lo) : xCall RX4 fr lo 0 64 4 2 gX4_isThere := ⟨_, _, _, _, _, _, ctX4_isThere, h1, h2, mcX4_isThere.1, (xinT 542 (by decide +kernel) (by decide +kernel)), mcX4_isThere.2.1, ⟨by decide +kernel, by decide +kernel, by decide +kernel⟩, by rw [if_pos rfl]; exact ⟨mcX4_isThere.2.2.1, mcX4_isThere.2.2.2, _, _, rfl⟩⟩
theorem dX4_sheetsOf_0 : decode cX4_sheetsOf 0 = .ok (.iload_n 1, 1) := by decide +kernel
theorem dX4_sheetsOf_1 : decode cX4_sheetsOf 1 = .ok (.iconst 1, 1) := by decide +kernel
theorem dX4_sheetsOf_2 : decode cX4_sheetsOf 2 = .ok (.if_icmp .ne 10, 3) := by decide +kernel
theorem dX4_sheetsOf_5 : decode cX4_sheetsOf 5 = .ok (.aload_n 0, 1) := by decide +kernel
theorem dX4_sheetsOf_6 : decode cX4_sheetsOf 6 = .ok (.getfield 37, 3) := by decide +kernel
theorem dX4_sheetsOf_9 : decode cX4_sheetsOf 9 = .ok (.goto 19, 3) := by decide +kernel
theorem dX4_sheetsOf_12 : decode cX4_sheetsOf 12 = .ok (.iload_n 1, 1) := by decide +kernel
theorem dX4_sheetsOf_13 : decode cX4_sheetsOf 13 = .ok (.iconst 2, 1) := by decide +kernel
theorem dX4_sheetsOf_14 : decode cX4_sheetsOf 14 = .ok (.if_icmp .ne 10, 3) := by decide +kernel
theorem dX4_sheetsOf_17 : decode cX4_sheetsOf 17 = .ok (.aload_n 0, 1) := by decide +kernel
theorem dX4_sheetsOf_18 : decode cX4_sheetsOf 18 = .ok (.getfield 41, 3) := by decide +kernel
theorem dX4_sheetsOf_21 : decode cX4_sheetsOf 21 = .ok (.goto 7, 3) := by decide +kernel
theorem dX4_sheetsOf_24 : decode cX4_sheetsOf 24 = .ok (.aload_n 0, 1) := by decide +kernel
theorem dX4_sheetsOf_25 : decode cX4_sheetsOf 25 = .ok (.getfield 44, 3) := by decide +kernel
theorem dX4_sheetsOf_28 : decode cX4_sheetsOf 28 = .ok (.areturn, 1) := by decide +kernel
def zX4_sheetsOf (Qr : Option PV → Mem → Prop) : XZ := (RX4, 0, 0, 2, some (FieldType.array (FieldType.object "OnePair$Sheet")), Qr)
noncomputable def fX4_sheetsOf (o : Nat) (x1 : Int) : Nat :=
  if x1 ≠ 1 then
    if x1 ≠ 2 then
      o + 6
    else
      o + 5
  else
    o + 4
theorem fX4_sheetsOf_ok {Qr : Option PV → Mem → Prop} : ∀ (o : Nat) (x1 : Int) (F : Mem) (res : Nat) (ho : isK o 4), fX4_sheetsOf o x1 = res → Qr (some (vR res)) F → PR cX4_sheetsOf (zX4_sheetsOf Qr) 0 [(0, vR o), (1, vI x1)] [] F := by
  intro o x1 F res ho h hq
  refine s_iload_n (j := 1) dX4_sheetsOf_0 rfl rfl ?_
  refine s_iconst dX4_sheetsOf_1 (cin rfl) ?_
  refine s_icmp_ne (tgt := 12) dX4_sheetsOf_2 rfl (fun hc1 => ?_) (fun hc1 => ?_)
  · have h := ifp hc1 h
    refine s_iload_n (j := 1) dX4_sheetsOf_12 rfl rfl ?_
    refine s_iconst dX4_sheetsOf_13 (cin rfl) ?_
    refine s_icmp_ne (tgt := 24) dX4_sheetsOf_14 rfl (fun hc2 => ?_) (fun hc2 => ?_)
    · have h := ifp hc2 h
      refine s_aload_n (j := 0) dX4_sheetsOf_24 rfl rfl ?_
      refine s_getR dX4_sheetsOf_25 flX4_44 ho ?_
      subst h
      exact s_areturn dX4_sheetsOf_28 rfl (Or.inr ⟨_, rfl⟩) hq
    · have h := ifn hc2 h
      refine s_aload_n (j := 0) dX4_sheetsOf_17 rfl rfl ?_
      refine s_getR dX4_sheetsOf_18 flX4_41 ho ?_
      refine s_goto (tgt := 28) dX4_sheetsOf_21 rfl ?_
      subst h
      exact s_areturn dX4_sheetsOf_28 rfl (Or.inr ⟨_, rfl⟩) hq
  · have h := ifn hc1 h
    refine s_aload_n (j := 0) dX4_sheetsOf_5 rfl rfl ?_
    refine s_getR dX4_sheetsOf_6 flX4_37 ho ?_
    refine s_goto (tgt := 28) dX4_sheetsOf_9 rfl ?_
    subst h
    exact s_areturn dX4_sheetsOf_28 rfl (Or.inr ⟨_, rfl⟩) hq
theorem fX4_sheetsOf_rt : ∀ (o : Nat) (x1 : Int) (res : Nat) (ho : isK o 4), fX4_sheetsOf o x1 = res → isRA res 3 := fun o x1 res ho h => by subst h; unfold fX4_sheetsOf; (repeat' split) <;> first | exact trX4_6 ho | exact trX4_7 ho | exact trX4_8 ho
def gX4_sheetsOf : XG := fun As F r F' => ∃ o : Nat, ∃ x1 : Int, ∃ res : Nat, As = [vR o, vI x1] ∧ isK o 4 ∧ fX4_sheetsOf o x1 = res ∧ r = some (vR res) ∧ F' = F
theorem ctX4_sheetsOf : xCT yX4_sheetsOf cX4_sheetsOf 2 (some (FieldType.array (FieldType.object "OnePair$Sheet"))) 0 0 gX4_sheetsOf := xmet (by decide +kernel) (fun As F r F' hg => by obtain ⟨o, x1, res, rfl, ho, h, rfl, rfl⟩ := hg; exact Nat.le_of_ble_eq_true rfl) (fun As F r F' hg => by obtain ⟨o, x1, res, rfl, ho, h, rfl, rfl⟩ := hg; exact fX4_sheetsOf_ok o x1 _ _ ho h ⟨rfl, rfl⟩)
theorem mcX4_sheetsOf : Cond.code yX4_sheetsOf cX4_sheetsOf 2 (some (FieldType.array (FieldType.object "OnePair$Sheet"))) ∈ xw_T ∧ Cond.initialized yX4_sheetsOf.cls ∈ xw_T ∧ Cond.instanceMethod yX4_sheetsOf ∈ xw_T ∧ Cond.selects yX4_sheetsOf.cls yX4_sheetsOf yX4_sheetsOf ∈ xw_T := ⟨(xinT 549 (by decide +kernel) (by decide +kernel)), (xinT 117 (by decide +kernel) (by decide +kernel)), (xinT 548 (by decide +kernel) (by decide +kernel)), (xinT 1 (by decide +kernel) (by decide +kernel))⟩
theorem clX4_68 {fr lo : Nat} (h1 : 0 + 1 ≤ fr) (h2 : 8 + (2 + 11) + 0 ≤ lo) : xCall RX4 fr lo 0 68 4 1 gX4_sheetsOf := ⟨_, _, _, _, _, _, ctX4_sheetsOf, h1, h2, mcX4_sheetsOf.1, (xinT 546 (by decide +kernel) (by decide +kernel)), mcX4_sheetsOf.2.1, ⟨by decide +kernel, by decide +kernel, by decide +kernel⟩, by rw [if_pos rfl]; exact ⟨mcX4_sheetsOf.2.2.1, mcX4_sheetsOf.2.2.2, _, _, rfl⟩⟩
theorem dX4_numberFor_0 : decode cX4_numberFor 0 = .ok (.iload_n 1, 1) := by decide +kernel
theorem dX4_numberFor_1 : decode cX4_numberFor 1 = .ok (.ifCond .lt 8, 3) := by decide +kernel
theorem dX4_numberFor_4 : decode cX4_numberFor 4 = .ok (.iload_n 1, 1) := by decide +kernel
theorem dX4_numberFor_5 : decode cX4_numberFor 5 = .ok (.iconst 4, 1) := by decide +kernel
theorem dX4_numberFor_6 : decode cX4_numberFor 6 = .ok (.if_icmp .lt 6, 3) := by decide +kernel
theorem dX4_numberFor_9 : decode cX4_numberFor 9 = .ok (.bipush (-2), 2) := by decide +kernel
theorem dX4_numberFor_11 : decode cX4_numberFor 11 = .ok (.ireturn, 1) := by decide +kernel
theorem dX4_numberFor_12 : decode cX4_numberFor 12 = .ok (.iload_n 2, 1) := by decide +kernel
theorem dX4_numberFor_13 : decode cX4_numberFor 13 = .ok (.iconst (-1), 1) := by decide +kernel
theorem dX4_numberFor_14 : decode cX4_numberFor 14 = .ok (.if_icmp .eq 19, 3) := by decide +kernel
theorem dX4_numberFor_17 : decode cX4_numberFor 17 = .ok (.aload_n 0, 1) := by decide +kernel
theorem dX4_numberFor_18 : decode cX4_numberFor 18 = .ok (.iload_n 1, 1) := by decide +kernel
theorem dX4_numberFor_19 : decode cX4_numberFor 19 = .ok (.iload_n 2, 1) := by decide +kernel
theorem dX4_numberFor_20 : decode cX4_numberFor 20 = .ok (.invokevirtual 64, 3) := by decide +kernel
theorem dX4_numberFor_23 : decode cX4_numberFor 23 = .ok (.ifCond .eq 7, 3) := by decide +kernel
theorem dX4_numberFor_26 : decode cX4_numberFor 26 = .ok (.iload_n 2, 1) := by decide +kernel
theorem dX4_numberFor_27 : decode cX4_numberFor 27 = .ok (.goto 5, 3) := by decide +kernel
theorem dX4_numberFor_30 : decode cX4_numberFor 30 = .ok (.bipush (-2), 2) := by decide +kernel
theorem dX4_numberFor_32 : decode cX4_numberFor 32 = .ok (.ireturn, 1) := by decide +kernel
theorem dX4_numberFor_33 : decode cX4_numberFor 33 = .ok (.iload_n 1, 1) := by decide +kernel
theorem dX4_numberFor_34 : decode cX4_numberFor 34 = .ok (.ifCond .ne 11, 3) := by decide +kernel
theorem dX4_numberFor_37 : decode cX4_numberFor 37 = .ok (.aload_n 0, 1) := by decide +kernel
theorem dX4_numberFor_38 : decode cX4_numberFor 38 = .ok (.getfield 31, 3) := by decide +kernel
theorem dX4_numberFor_41 : decode cX4_numberFor 41 = .ok (.arraylength, 1) := by decide +kernel
theorem dX4_numberFor_42 : decode cX4_numberFor 42 = .ok (.goto 9, 3) := by decide +kernel
theorem dX4_numberFor_45 : decode cX4_numberFor 45 = .ok (.aload_n 0, 1) := by decide +kernel
theorem dX4_numberFor_46 : decode cX4_numberFor 46 = .ok (.iload_n 1, 1) := by decide +kernel
theorem dX4_numberFor_47 : decode cX4_numberFor 47 = .ok (.invokevirtual 68, 3) := by decide +kernel
theorem dX4_numberFor_50 : decode cX4_numberFor 50 = .ok (.arraylength, 1) := by decide +kernel
theorem dX4_numberFor_51 : decode cX4_numberFor 51 = .ok (.istore_n 3, 1) := by decide +kernel
theorem dX4_numberFor_52 : decode cX4_numberFor 52 = .ok (.aload_n 0, 1) := by decide +kernel
theorem dX4_numberFor_53 : decode cX4_numberFor 53 = .ok (.getfield 25, 3) := by decide +kernel
theorem dX4_numberFor_56 : decode cX4_numberFor 56 = .ok (.iload_n 1, 1) := by decide +kernel
theorem dX4_numberFor_57 : decode cX4_numberFor 57 = .ok (.iaload, 1) := by decide +kernel
theorem dX4_numberFor_58 : decode cX4_numberFor 58 = .ok (.iload_n 3, 1) := by decide +kernel
theorem dX4_numberFor_59 : decode cX4_numberFor 59 = .ok (.if_icmp .ge 12, 3) := by decide +kernel
theorem dX4_numberFor_62 : decode cX4_numberFor 62 = .ok (.aload_n 0, 1) := by decide +kernel
theorem dX4_numberFor_63 : decode cX4_numberFor 63 = .ok (.getfield 25, 3) := by decide +kernel
theorem dX4_numberFor_66 : decode cX4_numberFor 66 = .ok (.iload_n 1, 1) := by decide +kernel
theorem dX4_numberFor_67 : decode cX4_numberFor 67 = .ok (.iaload, 1) := by decide +kernel
theorem dX4_numberFor_68 : decode cX4_numberFor 68 = .ok (.goto 5, 3) := by decide +kernel
theorem dX4_numberFor_71 : decode cX4_numberFor 71 = .ok (.bipush (-2), 2) := by decide +kernel
theorem dX4_numberFor_73 : decode cX4_numberFor 73 = .ok (.ireturn, 1) := by decide +kernel
def zX4_numberFor (Qr : Option PV → Mem → Prop) : XZ := (RX4, 1, 22, 4, some FieldType.int, Qr)
noncomputable def fX4_numberFor_b51 (F : Mem) (o : Nat) (x1 : Int) (s0 : Int) : Option Int :=
  if (0 : Int) ≤ x1 ∧ x1 < (alen (o + 2) : Int) then
    if s0 ≤ (F (o + 2) x1.toNat) then
      some (-2)
    else
      if (0 : Int) ≤ x1 ∧ x1 < (alen (o + 2) : Int) then
        some (F (o + 2) x1.toNat)
      else none
  else none
noncomputable def fX4_numberFor (o : Nat) (x1 : Int) (x2 : Int) (F : Mem) : Option Int :=
  if x1 < 0 then
    some (-2)
  else
    if x1 < 4 then
      if x2 = (-1) then
        if x1 ≠ 0 then
          fX4_numberFor_b51 F o x1 (alen (fX4_sheetsOf o x1) : Int)
        else
          fX4_numberFor_b51 F o x1 (alen (o + 3) : Int)
      else
        (fX4_isThere o x1 x2 F).bind fun r5 =>
        if r5 = 0 then
          some (-2)
        else
          some x2
    else
      some (-2)
theorem fX4_numberFor_b51_ok {Qr : Option PV → Mem → Prop}  (F : Mem) : ∀ (o : Nat) (x1 : Int) (s0 : Int) (res : Int) (ho : isK o 4), fX4_numberFor_b51 F o x1 s0 = some res → Qr (some (vI res)) F → PR cX4_numberFor (zX4_numberFor Qr) 51 [(0, vR o), (1, vI x1)] [vI s0] F := by
  intro o x1 s0 res ho h hq
  refine s_istore_n (ls' := [(3, vI s0), (0, vR o), (1, vI x1)]) dX4_numberFor_51 rfl (Nat.le_of_ble_eq_true rfl) rfl ?_
  refine s_aload_n (j := 1) dX4_numberFor_52 rfl rfl ?_
  refine s_getR dX4_numberFor_53 flX4_25 ho ?_
  refine s_iload_n (j := 2) dX4_numberFor_56 rfl rfl ?_
  obtain ⟨hb1, h⟩ := gd h
  refine s_iaload dX4_numberFor_57 (trX4_4 ho) hb1.1 hb1.2 ?_
  refine s_iload_n (j := 0) dX4_numberFor_58 rfl rfl ?_
  refine s_icmp_ge (tgt := 71) dX4_numberFor_59 rfl (fun hc2 => ?_) (fun hc2 => ?_)
  · have h := ifp hc2 h
    refine s_bipush dX4_numberFor_71 rfl (cin rfl) ?_
    have h := Option.some.inj h
    subst h
    exact s_ireturn dX4_numberFor_73 rfl hq
  · have h := ifn hc2 h
    refine s_aload_n (j := 1) dX4_numberFor_62 rfl rfl ?_
    refine s_getR dX4_numberFor_63 flX4_25 ho ?_
    refine s_iload_n (j := 2) dX4_numberFor_66 rfl rfl ?_
    obtain ⟨hb3, h⟩ := gd h
    refine s_iaload dX4_numberFor_67 (trX4_4 ho) hb3.1 hb3.2 ?_
    refine s_goto (tgt := 73) dX4_numberFor_68 rfl ?_
    have h := Option.some.inj h
    subst h
    exact s_ireturn dX4_numberFor_73 rfl hq
theorem fX4_numberFor_ok {Qr : Option PV → Mem → Prop} : ∀ (o : Nat) (x1 : Int) (x2 : Int) (F : Mem) (res : Int) (ho : isK o 4), fX4_numberFor o x1 x2 F = some res → Qr (some (vI res)) F → PR cX4_numberFor (zX4_numberFor Qr) 0 [(0, vR o), (1, vI x1), (2, vI x2)] [] F := by
  intro o x1 x2 F res ho h hq
  refine s_iload_n (j := 1) dX4_numberFor_0 rfl rfl ?_
  refine s_if_lt (tgt := 9) dX4_numberFor_1 rfl (fun hc1 => ?_) (fun hc1 => ?_)
  · have h := ifp hc1 h
    refine s_bipush dX4_numberFor_9 rfl (cin rfl) ?_
    have h := Option.some.inj h
    subst h
    exact s_ireturn dX4_numberFor_11 rfl hq
  · have h := ifn hc1 h
    refine s_iload_n (j := 1) dX4_numberFor_4 rfl rfl ?_
    refine s_iconst dX4_numberFor_5 (cin rfl) ?_
    refine s_icmp_lt (tgt := 12) dX4_numberFor_6 rfl (fun hc2 => ?_) (fun hc2 => ?_)
    · have h := ifp hc2 h
      refine s_iload_n (j := 2) dX4_numberFor_12 rfl rfl ?_
      refine s_iconst dX4_numberFor_13 (cin rfl) ?_
      refine s_icmp_eq (tgt := 33) dX4_numberFor_14 rfl (fun hc3 => ?_) (fun hc3 => ?_)
      · have h := ifp hc3 h
        refine s_iload_n (j := 1) dX4_numberFor_33 rfl rfl ?_
        refine s_if_ne (tgt := 45) dX4_numberFor_34 rfl (fun hc4 => ?_) (fun hc4 => ?_)
        · have h := ifp hc4 h
          refine s_aload_n (j := 0) dX4_numberFor_45 rfl rfl ?_
          refine s_iload_n (j := 1) dX4_numberFor_46 rfl rfl ?_
          refine s_callV (As := [vI x1]) (rest := []) (r := (some (vR (fX4_sheetsOf o x1)))) (F' := F) dX4_numberFor_47 (clX4_68 (Nat.le_of_ble_eq_true rfl) (Nat.le_of_ble_eq_true rfl)) ho rfl ⟨_, _, _, rfl, ho, rfl, rfl, rfl⟩ rfl (Nat.le_of_ble_eq_true rfl) ?_
          refine s_alenR dX4_numberFor_50 (fX4_sheetsOf_rt _ _ _ ho rfl) ?_
          exact s_sub (ks := [0, 1]) rfl (fX4_numberFor_b51_ok F o x1 (alen (fX4_sheetsOf o x1) : Int) _ ho h hq)
        · have h := ifn hc4 h
          refine s_aload_n (j := 0) dX4_numberFor_37 rfl rfl ?_
          refine s_getR dX4_numberFor_38 flX4_31 ho ?_
          refine s_alenR dX4_numberFor_41 (trX4_5 ho) ?_
          refine s_goto (tgt := 51) dX4_numberFor_42 rfl ?_
          exact s_sub (ks := [0, 1]) rfl (fX4_numberFor_b51_ok F o x1 (alen (o + 3) : Int) _ ho h hq)
      · have h := ifn hc3 h
        refine s_aload_n (j := 0) dX4_numberFor_17 rfl rfl ?_
        refine s_iload_n (j := 1) dX4_numberFor_18 rfl rfl ?_
        refine s_iload_n (j := 2) dX4_numberFor_19 rfl rfl ?_
        obtain ⟨r5, hv6, h⟩ := bnd h
        refine s_callV (As := [vI x1, vI x2]) (rest := []) (r := (some (vI r5))) (F' := F) dX4_numberFor_20 (clX4_64 (Nat.le_of_ble_eq_true rfl) (Nat.le_of_ble_eq_true rfl)) ho rfl ⟨_, _, _, _, rfl, ho, hv6, rfl, rfl⟩ rfl (Nat.le_of_ble_eq_true rfl) ?_
        refine s_if_eq (tgt := 30) dX4_numberFor_23 rfl (fun hc7 => ?_) (fun hc7 => ?_)
        · have h := ifp hc7 h
          refine s_bipush dX4_numberFor_30 rfl (cin rfl) ?_
          have h := Option.some.inj h
          subst h
          exact s_ireturn dX4_numberFor_32 rfl hq
        · have h := ifn hc7 h
          refine s_iload_n (j := 2) dX4_numberFor_26 rfl rfl ?_
          refine s_goto (tgt := 32) dX4_numberFor_27 rfl ?_
          have h := Option.some.inj h
          subst h
          exact s_ireturn dX4_numberFor_32 rfl hq
    · have h := ifn hc2 h
      refine s_bipush dX4_numberFor_9 rfl (cin rfl) ?_
      have h := Option.some.inj h
      subst h
      exact s_ireturn dX4_numberFor_11 rfl hq
def gX4_numberFor : XG := fun As F r F' => ∃ o : Nat, ∃ x1 : Int, ∃ x2 : Int, ∃ res : Int, As = [vR o, vI x1, vI x2] ∧ isK o 4 ∧ fX4_numberFor o x1 x2 F = some res ∧ r = some (vI res) ∧ F' = F
theorem ctX4_numberFor : xCT yX4_numberFor cX4_numberFor 4 (some FieldType.int) 1 22 gX4_numberFor := xmet (by decide +kernel) (fun As F r F' hg => by obtain ⟨o, x1, x2, res, rfl, ho, h, rfl, rfl⟩ := hg; exact Nat.le_of_ble_eq_true rfl) (fun As F r F' hg => by obtain ⟨o, x1, x2, res, rfl, ho, h, rfl, rfl⟩ := hg; exact fX4_numberFor_ok o x1 x2 _ _ ho h ⟨rfl, rfl⟩)
theorem mcX4_numberFor : Cond.code yX4_numberFor cX4_numberFor 4 (some FieldType.int) ∈ xw_T ∧ Cond.initialized yX4_numberFor.cls ∈ xw_T ∧ Cond.instanceMethod yX4_numberFor ∈ xw_T ∧ Cond.selects yX4_numberFor.cls yX4_numberFor yX4_numberFor ∈ xw_T := ⟨(xinT 541 (by decide +kernel) (by decide +kernel)), (xinT 117 (by decide +kernel) (by decide +kernel)), (xinT 539 (by decide +kernel) (by decide +kernel)), (xinT 540 (by decide +kernel) (by decide +kernel))⟩
theorem clX9_77 {fr lo : Nat} (h1 : 1 + 1 ≤ fr) (h2 : 8 + (4 + 11) + 22 ≤ lo) : xCall RX9 fr lo 0 77 4 2 gX4_numberFor := ⟨_, _, _, _, _, _, ctX4_numberFor, h1, h2, mcX4_numberFor.1, (xinT 538 (by decide +kernel) (by decide +kernel)), mcX4_numberFor.2.1, ⟨by decide +kernel, by decide +kernel, by decide +kernel⟩, by rw [if_pos rfl]; exact ⟨mcX4_numberFor.2.2.1, mcX4_numberFor.2.2.2, _, _, rfl⟩⟩
theorem dX4_keep_0 : decode cX4_keep 0 = .ok (.iload_n 1, 1) := by decide +kernel
theorem dX4_keep_1 : decode cX4_keep 1 = .ok (.ifCond .ne 32, 3) := by decide +kernel
theorem dX4_keep_4 : decode cX4_keep 4 = .ok (.iload_n 2, 1) := by decide +kernel
theorem dX4_keep_5 : decode cX4_keep 5 = .ok (.ifCond .lt 58, 3) := by decide +kernel
theorem dX4_keep_8 : decode cX4_keep 8 = .ok (.iload_n 2, 1) := by decide +kernel
theorem dX4_keep_9 : decode cX4_keep 9 = .ok (.aload_n 0, 1) := by decide +kernel
theorem dX4_keep_10 : decode cX4_keep 10 = .ok (.getfield 31, 3) := by decide +kernel
theorem dX4_keep_13 : decode cX4_keep 13 = .ok (.arraylength, 1) := by decide +kernel
theorem dX4_keep_14 : decode cX4_keep 14 = .ok (.if_icmp .ge 49, 3) := by decide +kernel
theorem dX4_keep_17 : decode cX4_keep 17 = .ok (.aload_n 0, 1) := by decide +kernel
theorem dX4_keep_18 : decode cX4_keep 18 = .ok (.getfield 31, 3) := by decide +kernel
theorem dX4_keep_21 : decode cX4_keep 21 = .ok (.iload_n 2, 1) := by decide +kernel
theorem dX4_keep_22 : decode cX4_keep 22 = .ok (.aaload, 1) := by decide +kernel
theorem dX4_keep_23 : decode cX4_keep 23 = .ok (.aload_n 3, 1) := by decide +kernel
theorem dX4_keep_24 : decode cX4_keep 24 = .ok (.getfield 72, 3) := by decide +kernel
theorem dX4_keep_27 : decode cX4_keep 27 = .ok (.invokevirtual 57, 3) := by decide +kernel
theorem dX4_keep_30 : decode cX4_keep 30 = .ok (.goto 33, 3) := by decide +kernel
theorem dX4_keep_33 : decode cX4_keep 33 = .ok (.aload_n 0, 1) := by decide +kernel
theorem dX4_keep_34 : decode cX4_keep 34 = .ok (.iload_n 1, 1) := by decide +kernel
theorem dX4_keep_35 : decode cX4_keep 35 = .ok (.invokevirtual 68, 3) := by decide +kernel
theorem dX4_keep_38 : decode cX4_keep 38 = .ok (.astore 4, 2) := by decide +kernel
theorem dX4_keep_40 : decode cX4_keep 40 = .ok (.iload_n 2, 1) := by decide +kernel
theorem dX4_keep_41 : decode cX4_keep 41 = .ok (.ifCond .lt 22, 3) := by decide +kernel
theorem dX4_keep_44 : decode cX4_keep 44 = .ok (.iload_n 2, 1) := by decide +kernel
theorem dX4_keep_45 : decode cX4_keep 45 = .ok (.aload 4, 2) := by decide +kernel
theorem dX4_keep_47 : decode cX4_keep 47 = .ok (.arraylength, 1) := by decide +kernel
theorem dX4_keep_48 : decode cX4_keep 48 = .ok (.if_icmp .ge 15, 3) := by decide +kernel
theorem dX4_keep_51 : decode cX4_keep 51 = .ok (.aload 4, 2) := by decide +kernel
theorem dX4_keep_53 : decode cX4_keep 53 = .ok (.iload_n 2, 1) := by decide +kernel
theorem dX4_keep_54 : decode cX4_keep 54 = .ok (.aaload, 1) := by decide +kernel
theorem dX4_keep_55 : decode cX4_keep 55 = .ok (.aload_n 3, 1) := by decide +kernel
theorem dX4_keep_56 : decode cX4_keep 56 = .ok (.iload_n 1, 1) := by decide +kernel
theorem dX4_keep_57 : decode cX4_keep 57 = .ok (.invokevirtual 78, 3) := by decide +kernel
theorem dX4_keep_60 : decode cX4_keep 60 = .ok (.invokevirtual 61, 3) := by decide +kernel
theorem dX4_keep_63 : decode cX4_keep 63 = .ok (.aload_n 0, 1) := by decide +kernel
theorem dX4_keep_64 : decode cX4_keep 64 = .ok (.getfield 25, 3) := by decide +kernel
theorem dX4_keep_67 : decode cX4_keep 67 = .ok (.iload_n 1, 1) := by decide +kernel
theorem dX4_keep_68 : decode cX4_keep 68 = .ok (.aload_n 0, 1) := by decide +kernel
theorem dX4_keep_69 : decode cX4_keep 69 = .ok (.getfield 25, 3) := by decide +kernel
theorem dX4_keep_72 : decode cX4_keep 72 = .ok (.iload_n 1, 1) := by decide +kernel
theorem dX4_keep_73 : decode cX4_keep 73 = .ok (.iaload, 1) := by decide +kernel
theorem dX4_keep_74 : decode cX4_keep 74 = .ok (.iload_n 2, 1) := by decide +kernel
theorem dX4_keep_75 : decode cX4_keep 75 = .ok (.iconst 1, 1) := by decide +kernel
theorem dX4_keep_76 : decode cX4_keep 76 = .ok (.iadd, 1) := by decide +kernel
theorem dX4_keep_77 : decode cX4_keep 77 = .ok (.invokestatic 82, 3) := by decide +kernel
theorem dX4_keep_80 : decode cX4_keep 80 = .ok (.iastore, 1) := by decide +kernel
theorem dX4_keep_81 : decode cX4_keep 81 = .ok (.return_, 1) := by decide +kernel
def zX4_keep (Qr : Option PV → Mem → Prop) : XZ := (RX4, 3, 82, 5, none, Qr)
noncomputable def fX4_keep_b63 (o : Nat) (x1 : Int) (x2 : Int) (F : Mem) : Option Mem :=
  if (0 : Int) ≤ x1 ∧ x1 < (alen (o + 2) : Int) then
    if (0 : Int) ≤ x1 ∧ x1 < (alen (o + 2) : Int) then
      some (mset F (o + 2) x1.toNat (xmax (F (o + 2) x1.toNat) (xw (x2 + 1))))
    else none
  else none
noncomputable def fX4_keep (o : Nat) (x1 : Int) (x2 : Int) (x3 : Nat) (F : Mem) : Option Mem :=
  if x1 ≠ 0 then
    if x2 < 0 then
      fX4_keep_b63 o x1 x2 F
    else
      if (alen (fX4_sheetsOf o x1) : Int) ≤ x2 then
        fX4_keep_b63 o x1 x2 F
      else
        if (0 : Int) ≤ x2 ∧ x2 < (alen (fX4_sheetsOf o x1) : Int) then
          if x3 = 0 then none else
          (fX3_copyFrom (aref (fX4_sheetsOf o x1) x2.toNat) (fX2_sheetFor x3 x1) F).bind fun q6 =>
          fX4_keep_b63 o x1 x2 q6
        else none
  else
    if x2 < 0 then
      fX4_keep_b63 o x1 x2 F
    else
      if (alen (o + 3) : Int) ≤ x2 then
        fX4_keep_b63 o x1 x2 F
      else
        if (0 : Int) ≤ x2 ∧ x2 < (alen (o + 3) : Int) then
          if x3 = 0 then none else
          (fX7_copyFrom (aref (o + 3) x2.toNat) (x3 + 2) F).bind fun q12 =>
          fX4_keep_b63 o x1 x2 q12
        else none
theorem fX4_keep_b63_ok {Qr : Option PV → Mem → Prop}  : ∀ (o : Nat) (x1 : Int) (x2 : Int) (F : Mem) (res : Mem) (ho : isK o 4), fX4_keep_b63 o x1 x2 F = some res → Qr none res → PR cX4_keep (zX4_keep Qr) 63 [(0, vR o), (1, vI x1), (2, vI x2)] [] F := by
  intro o x1 x2 F res ho h hq
  refine s_aload_n (j := 0) dX4_keep_63 rfl rfl ?_
  refine s_getR dX4_keep_64 flX4_25 ho ?_
  refine s_iload_n (j := 1) dX4_keep_67 rfl rfl ?_
  refine s_aload_n (j := 0) dX4_keep_68 rfl rfl ?_
  refine s_getR dX4_keep_69 flX4_25 ho ?_
  refine s_iload_n (j := 1) dX4_keep_72 rfl rfl ?_
  obtain ⟨hb1, h⟩ := gd h
  refine s_iaload dX4_keep_73 (trX4_4 ho) hb1.1 hb1.2 ?_
  refine s_iload_n (j := 2) dX4_keep_74 rfl rfl ?_
  refine s_iconst dX4_keep_75 (cin rfl) ?_
  refine s_iadd dX4_keep_76 ?_
  refine s_mmax dX4_keep_77 mtX4_82 (Nat.le_of_ble_eq_true rfl) ?_
  obtain ⟨hb2, h⟩ := gd h
  refine s_iastore dX4_keep_80 (trX4_4 ho) hb2.1 hb2.2 ?_
  have h := Option.some.inj h
  subst h
  exact s_return dX4_keep_81 rfl hq
theorem fX4_keep_ok {Qr : Option PV → Mem → Prop} : ∀ (o : Nat) (x1 : Int) (x2 : Int) (x3 : Nat) (F : Mem) (res : Mem) (ho : isK o 4) (hx3 : x3 = 0 ∨ isK x3 2), fX4_keep o x1 x2 x3 F = some res → Qr none res → PR cX4_keep (zX4_keep Qr) 0 [(0, vR o), (1, vI x1), (2, vI x2), (3, vR x3)] [] F := by
  intro o x1 x2 x3 F res ho hx3 h hq
  refine s_iload_n (j := 1) dX4_keep_0 rfl rfl ?_
  refine s_if_ne (tgt := 33) dX4_keep_1 rfl (fun hc1 => ?_) (fun hc1 => ?_)
  · have h := ifp hc1 h
    refine s_aload_n (j := 0) dX4_keep_33 rfl rfl ?_
    refine s_iload_n (j := 1) dX4_keep_34 rfl rfl ?_
    refine s_callV (As := [vI x1]) (rest := []) (r := (some (vR (fX4_sheetsOf o x1)))) (F' := F) dX4_keep_35 (clX4_68 (Nat.le_of_ble_eq_true rfl) (Nat.le_of_ble_eq_true rfl)) ho rfl ⟨_, _, _, rfl, ho, rfl, rfl, rfl⟩ rfl (Nat.le_of_ble_eq_true rfl) ?_
    refine s_astore (ls' := [(4, vR (fX4_sheetsOf o x1)), (0, vR o), (1, vI x1), (2, vI x2), (3, vR x3)]) dX4_keep_38 (Nat.le_of_ble_eq_true rfl) rfl ?_
    refine s_iload_n (j := 3) dX4_keep_40 rfl rfl ?_
    refine s_if_lt (tgt := 63) dX4_keep_41 rfl (fun hc2 => ?_) (fun hc2 => ?_)
    · have h := ifp hc2 h
      exact s_sub (ks := [1, 2, 3]) rfl (fX4_keep_b63_ok o x1 x2 F _ ho h hq)
    · have h := ifn hc2 h
      refine s_iload_n (j := 3) dX4_keep_44 rfl rfl ?_
      refine s_aload (j := 0) dX4_keep_45 rfl ?_
      refine s_alenR dX4_keep_47 (fX4_sheetsOf_rt _ _ _ ho rfl) ?_
      refine s_icmp_ge (tgt := 63) dX4_keep_48 rfl (fun hc3 => ?_) (fun hc3 => ?_)
      · have h := ifp hc3 h
        exact s_sub (ks := [1, 2, 3]) rfl (fX4_keep_b63_ok o x1 x2 F _ ho h hq)
      · have h := ifn hc3 h
        refine s_aload (j := 0) dX4_keep_51 rfl ?_
        refine s_iload_n (j := 3) dX4_keep_53 rfl rfl ?_
        obtain ⟨hb4, h⟩ := gd h
        refine s_aaload dX4_keep_54 (fX4_sheetsOf_rt _ _ _ ho rfl) hb4.1 hb4.2 ?_
        refine s_aload_n (j := 4) dX4_keep_55 rfl rfl ?_
        refine s_iload_n (j := 2) dX4_keep_56 rfl rfl ?_
        obtain ⟨hn5, h⟩ := gdn h
        refine s_callV (As := [vI x1]) (rest := [vR (aref (fX4_sheetsOf o x1) x2.toNat)]) (r := (some (vR (fX2_sheetFor x3 x1)))) (F' := F) dX4_keep_57 (clX4_78 (Nat.le_of_ble_eq_true rfl) (Nat.le_of_ble_eq_true rfl)) (hx3.resolve_left hn5) rfl ⟨_, _, _, rfl, (hx3.resolve_left hn5), rfl, rfl, rfl⟩ rfl (Nat.le_of_ble_eq_true rfl) ?_
        obtain ⟨q6, hv7, h⟩ := bnd h
        refine s_callV (As := [vR (fX2_sheetFor x3 x1)]) (rest := []) (r := none) (F' := q6) dX4_keep_60 (clX4_61 (Nat.le_of_ble_eq_true rfl) (Nat.le_of_ble_eq_true rfl)) (aref_K (fX4_sheetsOf_rt _ _ _ ho rfl) (tolt hb4)) rfl ⟨_, _, _, rfl, (aref_K (fX4_sheetsOf_rt _ _ _ ho rfl) (tolt hb4)), (Or.inr (fX2_sheetFor_rt _ _ _ (hx3.resolve_left hn5) rfl)), hv7, rfl, rfl⟩ rfl (Nat.le_of_ble_eq_true rfl) ?_
        exact s_sub (ks := [1, 2, 3]) rfl (fX4_keep_b63_ok o x1 x2 q6 _ ho h hq)
  · have h := ifn hc1 h
    refine s_iload_n (j := 2) dX4_keep_4 rfl rfl ?_
    refine s_if_lt (tgt := 63) dX4_keep_5 rfl (fun hc8 => ?_) (fun hc8 => ?_)
    · have h := ifp hc8 h
      exact s_sub (ks := [0, 1, 2]) rfl (fX4_keep_b63_ok o x1 x2 F _ ho h hq)
    · have h := ifn hc8 h
      refine s_iload_n (j := 2) dX4_keep_8 rfl rfl ?_
      refine s_aload_n (j := 0) dX4_keep_9 rfl rfl ?_
      refine s_getR dX4_keep_10 flX4_31 ho ?_
      refine s_alenR dX4_keep_13 (trX4_5 ho) ?_
      refine s_icmp_ge (tgt := 63) dX4_keep_14 rfl (fun hc9 => ?_) (fun hc9 => ?_)
      · have h := ifp hc9 h
        exact s_sub (ks := [0, 1, 2]) rfl (fX4_keep_b63_ok o x1 x2 F _ ho h hq)
      · have h := ifn hc9 h
        refine s_aload_n (j := 0) dX4_keep_17 rfl rfl ?_
        refine s_getR dX4_keep_18 flX4_31 ho ?_
        refine s_iload_n (j := 2) dX4_keep_21 rfl rfl ?_
        obtain ⟨hb10, h⟩ := gd h
        refine s_aaload dX4_keep_22 (trX4_5 ho) hb10.1 hb10.2 ?_
        refine s_aload_n (j := 3) dX4_keep_23 rfl rfl ?_
        obtain ⟨hn11, h⟩ := gdn h
        refine s_getR dX4_keep_24 flX4_72 (hx3.resolve_left hn11) ?_
        obtain ⟨q12, hv13, h⟩ := bnd h
        refine s_callV (As := [vR (x3 + 2)]) (rest := []) (r := none) (F' := q12) dX4_keep_27 (clX4_57 (Nat.le_of_ble_eq_true rfl) (Nat.le_of_ble_eq_true rfl)) (aref_K (trX4_5 ho) (tolt hb10)) rfl ⟨_, _, _, rfl, (aref_K (trX4_5 ho) (tolt hb10)), (Or.inr (trX2_9 (hx3.resolve_left hn11))), hv13, rfl, rfl⟩ rfl (Nat.le_of_ble_eq_true rfl) ?_
        refine s_goto (tgt := 63) dX4_keep_30 rfl ?_
        exact s_sub (ks := [0, 1, 2]) rfl (fX4_keep_b63_ok o x1 x2 q12 _ ho h hq)
def gX4_keep : XG := fun As F r F' => ∃ o : Nat, ∃ x1 : Int, ∃ x2 : Int, ∃ x3 : Nat, ∃ res : Mem, As = [vR o, vI x1, vI x2, vR x3] ∧ isK o 4 ∧ (x3 = 0 ∨ isK x3 2) ∧ fX4_keep o x1 x2 x3 F = some res ∧ r = none ∧ F' = res
theorem ctX4_keep : xCT yX4_keep cX4_keep 5 (none) 3 82 gX4_keep := xmet (by decide +kernel) (fun As F r F' hg => by obtain ⟨o, x1, x2, x3, res, rfl, ho, hx3, h, rfl, rfl⟩ := hg; exact Nat.le_of_ble_eq_true rfl) (fun As F r F' hg => by obtain ⟨o, x1, x2, x3, res, rfl, ho, hx3, h, rfl, rfl⟩ := hg; exact fX4_keep_ok o x1 x2 x3 _ _ ho hx3 h ⟨rfl, rfl⟩)
theorem mcX4_keep : Cond.code yX4_keep cX4_keep 5 (none) ∈ xw_T ∧ Cond.initialized yX4_keep.cls ∈ xw_T ∧ Cond.instanceMethod yX4_keep ∈ xw_T ∧ Cond.selects yX4_keep.cls yX4_keep yX4_keep ∈ xw_T := ⟨(xinT 730 (by decide +kernel) (by decide +kernel)), (xinT 117 (by decide +kernel) (by decide +kernel)), (xinT 728 (by decide +kernel) (by decide +kernel)), (xinT 729 (by decide +kernel) (by decide +kernel))⟩
theorem clX9_99 {fr lo : Nat} (h1 : 3 + 1 ≤ fr) (h2 : 8 + (5 + 11) + 82 ≤ lo) : xCall RX9 fr lo 0 99 4 3 gX4_keep := ⟨_, _, _, _, _, _, ctX4_keep, h1, h2, mcX4_keep.1, (xinT 727 (by decide +kernel) (by decide +kernel)), mcX4_keep.2.1, ⟨by decide +kernel, by decide +kernel, by decide +kernel⟩, by rw [if_pos rfl]; exact ⟨mcX4_keep.2.2.1, mcX4_keep.2.2.2, _, _, rfl⟩⟩
theorem dX4_valleyAt_0 : decode cX4_valleyAt 0 = .ok (.aload_n 0, 1) := by decide +kernel
theorem dX4_valleyAt_1 : decode cX4_valleyAt 1 = .ok (.iconst 0, 1) := by decide +kernel
theorem dX4_valleyAt_2 : decode cX4_valleyAt 2 = .ok (.iload_n 1, 1) := by decide +kernel
theorem dX4_valleyAt_3 : decode cX4_valleyAt 3 = .ok (.invokevirtual 64, 3) := by decide +kernel
theorem dX4_valleyAt_6 : decode cX4_valleyAt 6 = .ok (.ifCond .eq 12, 3) := by decide +kernel
theorem dX4_valleyAt_9 : decode cX4_valleyAt 9 = .ok (.aload_n 0, 1) := by decide +kernel
theorem dX4_valleyAt_10 : decode cX4_valleyAt 10 = .ok (.getfield 31, 3) := by decide +kernel
theorem dX4_valleyAt_13 : decode cX4_valleyAt 13 = .ok (.iload_n 1, 1) := by decide +kernel
theorem dX4_valleyAt_14 : decode cX4_valleyAt 14 = .ok (.aaload, 1) := by decide +kernel
theorem dX4_valleyAt_15 : decode cX4_valleyAt 15 = .ok (.goto 4, 3) := by decide +kernel
theorem dX4_valleyAt_18 : decode cX4_valleyAt 18 = .ok (.aconst_null, 1) := by decide +kernel
theorem dX4_valleyAt_19 : decode cX4_valleyAt 19 = .ok (.areturn, 1) := by decide +kernel
def zX4_valleyAt (Qr : Option PV → Mem → Prop) : XZ := (RX4, 1, 22, 2, some (FieldType.object "OnePair$Valley"), Qr)
noncomputable def fX4_valleyAt (o : Nat) (x1 : Int) (F : Mem) : Option Nat :=
  (fX4_isThere o 0 x1 F).bind fun r1 =>
  if r1 = 0 then
    some 0
  else
    if (0 : Int) ≤ x1 ∧ x1 < (alen (o + 3) : Int) then
      some (aref (o + 3) x1.toNat)
    else none
theorem fX4_valleyAt_ok {Qr : Option PV → Mem → Prop} : ∀ (o : Nat) (x1 : Int) (F : Mem) (res : Nat) (ho : isK o 4), fX4_valleyAt o x1 F = some res → Qr (some (vR res)) F → PR cX4_valleyAt (zX4_valleyAt Qr) 0 [(0, vR o), (1, vI x1)] [] F := by
  intro o x1 F res ho h hq
  refine s_aload_n (j := 0) dX4_valleyAt_0 rfl rfl ?_
  refine s_iconst dX4_valleyAt_1 (cin rfl) ?_
  refine s_iload_n (j := 1) dX4_valleyAt_2 rfl rfl ?_
  obtain ⟨r1, hv2, h⟩ := bnd h
  refine s_callV (As := [vI 0, vI x1]) (rest := []) (r := (some (vI r1))) (F' := F) dX4_valleyAt_3 (clX4_64 (Nat.le_of_ble_eq_true rfl) (Nat.le_of_ble_eq_true rfl)) ho rfl ⟨_, _, _, _, rfl, ho, hv2, rfl, rfl⟩ rfl (Nat.le_of_ble_eq_true rfl) ?_
  refine s_if_eq (tgt := 18) dX4_valleyAt_6 rfl (fun hc3 => ?_) (fun hc3 => ?_)
  · have h := ifp hc3 h
    refine s_null dX4_valleyAt_18 ?_
    have h := Option.some.inj h
    subst h
    exact s_areturn dX4_valleyAt_19 rfl (Or.inl ⟨_, rfl⟩) hq
  · have h := ifn hc3 h
    refine s_aload_n (j := 0) dX4_valleyAt_9 rfl rfl ?_
    refine s_getR dX4_valleyAt_10 flX4_31 ho ?_
    refine s_iload_n (j := 1) dX4_valleyAt_13 rfl rfl ?_
    obtain ⟨hb4, h⟩ := gd h
    refine s_aaload dX4_valleyAt_14 (trX4_5 ho) hb4.1 hb4.2 ?_
    refine s_goto (tgt := 19) dX4_valleyAt_15 rfl ?_
    have h := Option.some.inj h
    subst h
    exact s_areturn dX4_valleyAt_19 rfl (Or.inl ⟨_, rfl⟩) hq
theorem fX4_valleyAt_rt : ∀ (o : Nat) (x1 : Int) (F : Mem) (res : Nat) (ho : isK o 4), fX4_valleyAt o x1 F = some res → res = 0 ∨ isK res 7 := fun o x1 F res ho h => by
  obtain ⟨r1, _, h⟩ := bnd h
  by_cases hc : r1 = 0
  · exact Or.inl (Option.some.inj (ifp hc h)).symm
  · obtain ⟨hb, h⟩ := gd (ifn hc h)
    have h := Option.some.inj h
    subst h
    exact Or.inr (aref_K (trX4_5 ho) (tolt hb))
def gX4_valleyAt : XG := fun As F r F' => ∃ o : Nat, ∃ x1 : Int, ∃ res : Nat, As = [vR o, vI x1] ∧ isK o 4 ∧ fX4_valleyAt o x1 F = some res ∧ r = some (vR res) ∧ F' = F
theorem ctX4_valleyAt : xCT yX4_valleyAt cX4_valleyAt 2 (some (FieldType.object "OnePair$Valley")) 1 22 gX4_valleyAt := xmet (by decide +kernel) (fun As F r F' hg => by obtain ⟨o, x1, res, rfl, ho, h, rfl, rfl⟩ := hg; exact Nat.le_of_ble_eq_true rfl) (fun As F r F' hg => by obtain ⟨o, x1, res, rfl, ho, h, rfl, rfl⟩ := hg; exact fX4_valleyAt_ok o x1 _ _ ho h ⟨rfl, rfl⟩)
theorem mcX4_valleyAt : Cond.code yX4_valleyAt cX4_valleyAt 2 (some (FieldType.object "OnePair$Valley")) ∈ xw_T ∧ Cond.initialized yX4_valleyAt.cls ∈ xw_T ∧ Cond.instanceMethod yX4_valleyAt ∈ xw_T ∧ Cond.selects yX4_valleyAt.cls yX4_valleyAt yX4_valleyAt ∈ xw_T := ⟨(xinT 757 (by decide +kernel) (by decide +kernel)), (xinT 117 (by decide +kernel) (by decide +kernel)), (xinT 755 (by decide +kernel) (by decide +kernel)), (xinT 756 (by decide +kernel) (by decide +kernel))⟩
theorem clX9_105 {fr lo : Nat} (h1 : 1 + 1 ≤ fr) (h2 : 8 + (2 + 11) + 22 ≤ lo) : xCall RX9 fr lo 0 105 4 1 gX4_valleyAt := ⟨_, _, _, _, _, _, ctX4_valleyAt, h1, h2, mcX4_valleyAt.1, (xinT 754 (by decide +kernel) (by decide +kernel)), mcX4_valleyAt.2.1, ⟨by decide +kernel, by decide +kernel, by decide +kernel⟩, by rw [if_pos rfl]; exact ⟨mcX4_valleyAt.2.2.1, mcX4_valleyAt.2.2.2, _, _, rfl⟩⟩
theorem dX4_sheetAt_0 : decode cX4_sheetAt 0 = .ok (.aload_n 0, 1) := by decide +kernel
theorem dX4_sheetAt_1 : decode cX4_sheetAt 1 = .ok (.iload_n 1, 1) := by decide +kernel
theorem dX4_sheetAt_2 : decode cX4_sheetAt 2 = .ok (.iload_n 2, 1) := by decide +kernel
theorem dX4_sheetAt_3 : decode cX4_sheetAt 3 = .ok (.invokevirtual 64, 3) := by decide +kernel
theorem dX4_sheetAt_6 : decode cX4_sheetAt 6 = .ok (.ifCond .eq 13, 3) := by decide +kernel
theorem dX4_sheetAt_9 : decode cX4_sheetAt 9 = .ok (.aload_n 0, 1) := by decide +kernel
theorem dX4_sheetAt_10 : decode cX4_sheetAt 10 = .ok (.iload_n 1, 1) := by decide +kernel
theorem dX4_sheetAt_11 : decode cX4_sheetAt 11 = .ok (.invokevirtual 68, 3) := by decide +kernel
theorem dX4_sheetAt_14 : decode cX4_sheetAt 14 = .ok (.iload_n 2, 1) := by decide +kernel
theorem dX4_sheetAt_15 : decode cX4_sheetAt 15 = .ok (.aaload, 1) := by decide +kernel
theorem dX4_sheetAt_16 : decode cX4_sheetAt 16 = .ok (.goto 4, 3) := by decide +kernel
theorem dX4_sheetAt_19 : decode cX4_sheetAt 19 = .ok (.aconst_null, 1) := by decide +kernel
theorem dX4_sheetAt_20 : decode cX4_sheetAt 20 = .ok (.areturn, 1) := by decide +kernel
def zX4_sheetAt (Qr : Option PV → Mem → Prop) : XZ := (RX4, 1, 22, 3, some (FieldType.object "OnePair$Sheet"), Qr)
noncomputable def fX4_sheetAt (o : Nat) (x1 : Int) (x2 : Int) (F : Mem) : Option Nat :=
  (fX4_isThere o x1 x2 F).bind fun r1 =>
  if r1 = 0 then
    some 0
  else
    if (0 : Int) ≤ x2 ∧ x2 < (alen (fX4_sheetsOf o x1) : Int) then
      some (aref (fX4_sheetsOf o x1) x2.toNat)
    else none
theorem fX4_sheetAt_ok {Qr : Option PV → Mem → Prop} : ∀ (o : Nat) (x1 : Int) (x2 : Int) (F : Mem) (res : Nat) (ho : isK o 4), fX4_sheetAt o x1 x2 F = some res → Qr (some (vR res)) F → PR cX4_sheetAt (zX4_sheetAt Qr) 0 [(0, vR o), (1, vI x1), (2, vI x2)] [] F := by
  intro o x1 x2 F res ho h hq
  refine s_aload_n (j := 0) dX4_sheetAt_0 rfl rfl ?_
  refine s_iload_n (j := 1) dX4_sheetAt_1 rfl rfl ?_
  refine s_iload_n (j := 2) dX4_sheetAt_2 rfl rfl ?_
  obtain ⟨r1, hv2, h⟩ := bnd h
  refine s_callV (As := [vI x1, vI x2]) (rest := []) (r := (some (vI r1))) (F' := F) dX4_sheetAt_3 (clX4_64 (Nat.le_of_ble_eq_true rfl) (Nat.le_of_ble_eq_true rfl)) ho rfl ⟨_, _, _, _, rfl, ho, hv2, rfl, rfl⟩ rfl (Nat.le_of_ble_eq_true rfl) ?_
  refine s_if_eq (tgt := 19) dX4_sheetAt_6 rfl (fun hc3 => ?_) (fun hc3 => ?_)
  · have h := ifp hc3 h
    refine s_null dX4_sheetAt_19 ?_
    have h := Option.some.inj h
    subst h
    exact s_areturn dX4_sheetAt_20 rfl (Or.inl ⟨_, rfl⟩) hq
  · have h := ifn hc3 h
    refine s_aload_n (j := 0) dX4_sheetAt_9 rfl rfl ?_
    refine s_iload_n (j := 1) dX4_sheetAt_10 rfl rfl ?_
    refine s_callV (As := [vI x1]) (rest := []) (r := (some (vR (fX4_sheetsOf o x1)))) (F' := F) dX4_sheetAt_11 (clX4_68 (Nat.le_of_ble_eq_true rfl) (Nat.le_of_ble_eq_true rfl)) ho rfl ⟨_, _, _, rfl, ho, rfl, rfl, rfl⟩ rfl (Nat.le_of_ble_eq_true rfl) ?_
    refine s_iload_n (j := 2) dX4_sheetAt_14 rfl rfl ?_
    obtain ⟨hb4, h⟩ := gd h
    refine s_aaload dX4_sheetAt_15 (fX4_sheetsOf_rt _ _ _ ho rfl) hb4.1 hb4.2 ?_
    refine s_goto (tgt := 20) dX4_sheetAt_16 rfl ?_
    have h := Option.some.inj h
    subst h
    exact s_areturn dX4_sheetAt_20 rfl (Or.inl ⟨_, rfl⟩) hq
theorem fX4_sheetAt_rt : ∀ (o : Nat) (x1 : Int) (x2 : Int) (F : Mem) (res : Nat) (ho : isK o 4), fX4_sheetAt o x1 x2 F = some res → res = 0 ∨ isK res 3 := fun o x1 x2 F res ho h => by
  obtain ⟨r1, _, h⟩ := bnd h
  by_cases hc : r1 = 0
  · exact Or.inl (Option.some.inj (ifp hc h)).symm
  · obtain ⟨hb, h⟩ := gd (ifn hc h)
    have h := Option.some.inj h
    subst h
    exact Or.inr (aref_K (fX4_sheetsOf_rt _ _ _ ho rfl) (tolt hb))
def gX4_sheetAt : XG := fun As F r F' => ∃ o : Nat, ∃ x1 : Int, ∃ x2 : Int, ∃ res : Nat, As = [vR o, vI x1, vI x2] ∧ isK o 4 ∧ fX4_sheetAt o x1 x2 F = some res ∧ r = some (vR res) ∧ F' = F
theorem ctX4_sheetAt : xCT yX4_sheetAt cX4_sheetAt 3 (some (FieldType.object "OnePair$Sheet")) 1 22 gX4_sheetAt := xmet (by decide +kernel) (fun As F r F' hg => by obtain ⟨o, x1, x2, res, rfl, ho, h, rfl, rfl⟩ := hg; exact Nat.le_of_ble_eq_true rfl) (fun As F r F' hg => by obtain ⟨o, x1, x2, res, rfl, ho, h, rfl, rfl⟩ := hg; exact fX4_sheetAt_ok o x1 x2 _ _ ho h ⟨rfl, rfl⟩)
theorem mcX4_sheetAt : Cond.code yX4_sheetAt cX4_sheetAt 3 (some (FieldType.object "OnePair$Sheet")) ∈ xw_T ∧ Cond.initialized yX4_sheetAt.cls ∈ xw_T ∧ Cond.instanceMethod yX4_sheetAt ∈ xw_T ∧ Cond.selects yX4_sheetAt.cls yX4_sheetAt yX4_sheetAt ∈ xw_T := ⟨(xinT 787 (by decide +kernel) (by decide +kernel)), (xinT 117 (by decide +kernel) (by decide +kernel)), (xinT 785 (by decide +kernel) (by decide +kernel)), (xinT 786 (by decide +kernel) (by decide +kernel))⟩
theorem clX9_152 {fr lo : Nat} (h1 : 1 + 1 ≤ fr) (h2 : 8 + (3 + 11) + 22 ≤ lo) : xCall RX9 fr lo 0 152 4 2 gX4_sheetAt := ⟨_, _, _, _, _, _, ctX4_sheetAt, h1, h2, mcX4_sheetAt.1, (xinT 784 (by decide +kernel) (by decide +kernel)), mcX4_sheetAt.2.1, ⟨by decide +kernel, by decide +kernel, by decide +kernel⟩, by rw [if_pos rfl]; exact ⟨mcX4_sheetAt.2.2.1, mcX4_sheetAt.2.2.2, _, _, rfl⟩⟩
