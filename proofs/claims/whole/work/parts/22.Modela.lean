theorem dX10_isIn_0 : decode cX10_isIn 0 = .ok (.iload_n 0, 1) := by decide +kernel
theorem dX10_isIn_1 : decode cX10_isIn 1 = .ok (.iload_n 1, 1) := by decide +kernel
theorem dX10_isIn_2 : decode cX10_isIn 2 = .ok (.if_icmp .lt 12, 3) := by decide +kernel
theorem dX10_isIn_5 : decode cX10_isIn 5 = .ok (.iload_n 0, 1) := by decide +kernel
theorem dX10_isIn_6 : decode cX10_isIn 6 = .ok (.iload_n 2, 1) := by decide +kernel
theorem dX10_isIn_7 : decode cX10_isIn 7 = .ok (.if_icmp .gt 7, 3) := by decide +kernel
theorem dX10_isIn_10 : decode cX10_isIn 10 = .ok (.iconst 1, 1) := by decide +kernel
theorem dX10_isIn_11 : decode cX10_isIn 11 = .ok (.goto 4, 3) := by decide +kernel
theorem dX10_isIn_14 : decode cX10_isIn 14 = .ok (.iconst 0, 1) := by decide +kernel
theorem dX10_isIn_15 : decode cX10_isIn 15 = .ok (.ireturn, 1) := by decide +kernel
def zX10_isIn (Qr : Option PV → Mem → Prop) : XZ := (RX10, 0, 0, 3, some FieldType.boolean, Qr)
noncomputable def fX10_isIn (x0 : Int) (x1 : Int) (x2 : Int) : Int :=
  if x0 < x1 then
    0
  else
    if x2 < x0 then
      0
    else
      1
theorem fX10_isIn_ok {Qr : Option PV → Mem → Prop} : ∀ (x0 : Int) (x1 : Int) (x2 : Int) (F : Mem) (res : Int), fX10_isIn x0 x1 x2 = res → Qr (some (vI res)) F → PR cX10_isIn (zX10_isIn Qr) 0 [(0, vI x0), (1, vI x1), (2, vI x2)] [] F := by
  intro x0 x1 x2 F res  h hq
  refine s_iload_n (j := 0) dX10_isIn_0 rfl rfl ?_
  refine s_iload_n (j := 1) dX10_isIn_1 rfl rfl ?_
  refine s_icmp_lt (tgt := 14) dX10_isIn_2 rfl (fun hc1 => ?_) (fun hc1 => ?_)
  · have h := ifp hc1 h
    refine s_iconst dX10_isIn_14 (cin rfl) ?_
    subst h
    exact s_zreturn dX10_isIn_15 rfl (Or.inl rfl) hq
  · have h := ifn hc1 h
    refine s_iload_n (j := 0) dX10_isIn_5 rfl rfl ?_
    refine s_iload_n (j := 2) dX10_isIn_6 rfl rfl ?_
    refine s_icmp_gt (tgt := 14) dX10_isIn_7 rfl (fun hc2 => ?_) (fun hc2 => ?_)
    · have h := ifp hc2 h
      refine s_iconst dX10_isIn_14 (cin rfl) ?_
      subst h
      exact s_zreturn dX10_isIn_15 rfl (Or.inl rfl) hq
    · have h := ifn hc2 h
      refine s_iconst dX10_isIn_10 (cin rfl) ?_
      refine s_goto (tgt := 15) dX10_isIn_11 rfl ?_
      subst h
      exact s_zreturn dX10_isIn_15 rfl (Or.inr rfl) hq
def gX10_isIn : XG := fun As F r F' => ∃ x0 : Int, ∃ x1 : Int, ∃ x2 : Int, ∃ res : Int, As = [vI x0, vI x1, vI x2] ∧ fX10_isIn x0 x1 x2 = res ∧ r = some (vI res) ∧ F' = F
theorem ctX10_isIn : xCT yX10_isIn cX10_isIn 3 (some FieldType.boolean) 0 0 gX10_isIn := xmet (by decide +kernel) (fun As F r F' hg => by obtain ⟨x0, x1, x2, res, rfl, h, rfl, rfl⟩ := hg; exact Nat.le_of_ble_eq_true rfl) (fun As F r F' hg => by obtain ⟨x0, x1, x2, res, rfl, h, rfl, rfl⟩ := hg; exact fX10_isIn_ok x0 x1 x2 _ _  h ⟨rfl, rfl⟩)
theorem mcX10_isIn : Cond.code yX10_isIn cX10_isIn 3 (some FieldType.boolean) ∈ xw_T ∧ Cond.initialized yX10_isIn.cls ∈ xw_T ∧ Cond.static yX10_isIn ∈ xw_T := ⟨(xinT 1486 (by decide +kernel) (by decide +kernel)), (xinT 127 (by decide +kernel) (by decide +kernel)), (xinT 1485 (by decide +kernel) (by decide +kernel))⟩
theorem clX10_115 {fr lo : Nat} (h1 : 0 + 1 ≤ fr) (h2 : 8 + (3 + 11) + 0 ≤ lo) : xCall RX10 fr lo 1 115 0 3 gX10_isIn := ⟨_, _, _, _, _, _, ctX10_isIn, h1, h2, mcX10_isIn.1, (xinT 1484 (by decide +kernel) (by decide +kernel)), mcX10_isIn.2.1, ⟨by decide +kernel, by decide +kernel, by decide +kernel⟩, by rw [if_neg (by decide)]; exact mcX10_isIn.2.2⟩
theorem dX10_feed_0 : decode cX10_feed 0 = .ok (.aload_n 0, 1) := by decide +kernel
theorem dX10_feed_1 : decode cX10_feed 1 = .ok (.getfield 7, 3) := by decide +kernel
theorem dX10_feed_4 : decode cX10_feed 4 = .ok (.bipush 6, 2) := by decide +kernel
theorem dX10_feed_6 : decode cX10_feed 6 = .ok (.iaload, 1) := by decide +kernel
theorem dX10_feed_7 : decode cX10_feed 7 = .ok (.bipush 20, 2) := by decide +kernel
theorem dX10_feed_9 : decode cX10_feed 9 = .ok (.iadd, 1) := by decide +kernel
theorem dX10_feed_10 : decode cX10_feed 10 = .ok (.sipush 600, 3) := by decide +kernel
theorem dX10_feed_13 : decode cX10_feed 13 = .ok (.if_icmp .le 5, 3) := by decide +kernel
theorem dX10_feed_16 : decode cX10_feed 16 = .ok (.iconst (-1), 1) := by decide +kernel
theorem dX10_feed_17 : decode cX10_feed 17 = .ok (.ireturn, 1) := by decide +kernel
theorem dX10_feed_18 : decode cX10_feed 18 = .ok (.iconst 0, 1) := by decide +kernel
theorem dX10_feed_19 : decode cX10_feed 19 = .ok (.istore 6, 2) := by decide +kernel
theorem dX10_feed_21 : decode cX10_feed 21 = .ok (.iload 6, 2) := by decide +kernel
theorem dX10_feed_23 : decode cX10_feed 23 = .ok (.bipush 20, 2) := by decide +kernel
theorem dX10_feed_25 : decode cX10_feed 25 = .ok (.if_icmp .ge 100, 3) := by decide +kernel
theorem dX10_feed_28 : decode cX10_feed 28 = .ok (.iload 6, 2) := by decide +kernel
theorem dX10_feed_30 : decode cX10_feed 30 = .ok (.iconst 4, 1) := by decide +kernel
theorem dX10_feed_31 : decode cX10_feed 31 = .ok (.if_icmp .ge 7, 3) := by decide +kernel
theorem dX10_feed_34 : decode cX10_feed 34 = .ok (.iload_n 1, 1) := by decide +kernel
theorem dX10_feed_35 : decode cX10_feed 35 = .ok (.goto 39, 3) := by decide +kernel
theorem dX10_feed_38 : decode cX10_feed 38 = .ok (.iload 6, 2) := by decide +kernel
theorem dX10_feed_40 : decode cX10_feed 40 = .ok (.bipush 8, 2) := by decide +kernel
theorem dX10_feed_42 : decode cX10_feed 42 = .ok (.if_icmp .ge 7, 3) := by decide +kernel
theorem dX10_feed_45 : decode cX10_feed 45 = .ok (.iload_n 2, 1) := by decide +kernel
theorem dX10_feed_46 : decode cX10_feed 46 = .ok (.goto 28, 3) := by decide +kernel
theorem dX10_feed_49 : decode cX10_feed 49 = .ok (.iload 6, 2) := by decide +kernel
theorem dX10_feed_51 : decode cX10_feed 51 = .ok (.bipush 12, 2) := by decide +kernel
theorem dX10_feed_53 : decode cX10_feed 53 = .ok (.if_icmp .ge 7, 3) := by decide +kernel
theorem dX10_feed_56 : decode cX10_feed 56 = .ok (.iload_n 3, 1) := by decide +kernel
theorem dX10_feed_57 : decode cX10_feed 57 = .ok (.goto 17, 3) := by decide +kernel
theorem dX10_feed_60 : decode cX10_feed 60 = .ok (.iload 6, 2) := by decide +kernel
theorem dX10_feed_62 : decode cX10_feed 62 = .ok (.bipush 16, 2) := by decide +kernel
theorem dX10_feed_64 : decode cX10_feed 64 = .ok (.if_icmp .ge 8, 3) := by decide +kernel
theorem dX10_feed_67 : decode cX10_feed 67 = .ok (.iload 4, 2) := by decide +kernel
theorem dX10_feed_69 : decode cX10_feed 69 = .ok (.goto 5, 3) := by decide +kernel
theorem dX10_feed_72 : decode cX10_feed 72 = .ok (.iload 5, 2) := by decide +kernel
theorem dX10_feed_74 : decode cX10_feed 74 = .ok (.istore 7, 2) := by decide +kernel
theorem dX10_feed_76 : decode cX10_feed 76 = .ok (.aload_n 0, 1) := by decide +kernel
theorem dX10_feed_77 : decode cX10_feed 77 = .ok (.getfield 7, 3) := by decide +kernel
theorem dX10_feed_80 : decode cX10_feed 80 = .ok (.bipush 10, 2) := by decide +kernel
theorem dX10_feed_82 : decode cX10_feed 82 = .ok (.aload_n 0, 1) := by decide +kernel
theorem dX10_feed_83 : decode cX10_feed 83 = .ok (.getfield 7, 3) := by decide +kernel
theorem dX10_feed_86 : decode cX10_feed 86 = .ok (.bipush 6, 2) := by decide +kernel
theorem dX10_feed_88 : decode cX10_feed 88 = .ok (.iaload, 1) := by decide +kernel
theorem dX10_feed_89 : decode cX10_feed 89 = .ok (.iadd, 1) := by decide +kernel
theorem dX10_feed_90 : decode cX10_feed 90 = .ok (.iload 7, 2) := by decide +kernel
theorem dX10_feed_92 : decode cX10_feed 92 = .ok (.bipush 24, 2) := by decide +kernel
theorem dX10_feed_94 : decode cX10_feed 94 = .ok (.bipush 8, 2) := by decide +kernel
theorem dX10_feed_96 : decode cX10_feed 96 = .ok (.iload 6, 2) := by decide +kernel
theorem dX10_feed_98 : decode cX10_feed 98 = .ok (.iconst 4, 1) := by decide +kernel
theorem dX10_feed_99 : decode cX10_feed 99 = .ok (.irem, 1) := by decide +kernel
theorem dX10_feed_100 : decode cX10_feed 100 = .ok (.imul, 1) := by decide +kernel
theorem dX10_feed_101 : decode cX10_feed 101 = .ok (.isub, 1) := by decide +kernel
theorem dX10_feed_102 : decode cX10_feed 102 = .ok (.ishr, 1) := by decide +kernel
theorem dX10_feed_103 : decode cX10_feed 103 = .ok (.sipush 255, 3) := by decide +kernel
theorem dX10_feed_106 : decode cX10_feed 106 = .ok (.iand, 1) := by decide +kernel
theorem dX10_feed_107 : decode cX10_feed 107 = .ok (.iastore, 1) := by decide +kernel
theorem dX10_feed_108 : decode cX10_feed 108 = .ok (.aload_n 0, 1) := by decide +kernel
theorem dX10_feed_109 : decode cX10_feed 109 = .ok (.getfield 7, 3) := by decide +kernel
theorem dX10_feed_112 : decode cX10_feed 112 = .ok (.bipush 6, 2) := by decide +kernel
theorem dX10_feed_114 : decode cX10_feed 114 = .ok (.dup2, 1) := by decide +kernel
theorem dX10_feed_115 : decode cX10_feed 115 = .ok (.iaload, 1) := by decide +kernel
theorem dX10_feed_116 : decode cX10_feed 116 = .ok (.iconst 1, 1) := by decide +kernel
theorem dX10_feed_117 : decode cX10_feed 117 = .ok (.iadd, 1) := by decide +kernel
theorem dX10_feed_118 : decode cX10_feed 118 = .ok (.iastore, 1) := by decide +kernel
theorem dX10_feed_119 : decode cX10_feed 119 = .ok (.iinc 6 1, 3) := by decide +kernel
theorem dX10_feed_122 : decode cX10_feed 122 = .ok (.goto (-101), 3) := by decide +kernel
theorem dX10_feed_125 : decode cX10_feed 125 = .ok (.aload_n 0, 1) := by decide +kernel
theorem dX10_feed_126 : decode cX10_feed 126 = .ok (.getfield 7, 3) := by decide +kernel
theorem dX10_feed_129 : decode cX10_feed 129 = .ok (.bipush 6, 2) := by decide +kernel
theorem dX10_feed_131 : decode cX10_feed 131 = .ok (.iaload, 1) := by decide +kernel
theorem dX10_feed_132 : decode cX10_feed 132 = .ok (.ireturn, 1) := by decide +kernel
def zX10_feed (Qr : Option PV → Mem → Prop) : XZ := (RX10, 0, 0, 8, some FieldType.int, Qr)
noncomputable def fX10_feed_b74 (k21 : Nat → Int → Int → Int → Int → Int → Int → Mem → Option (Int × Mem)) (o : Nat) (x1 : Int) (x2 : Int) (x3 : Int) (x4 : Int) (x5 : Int) (x6 : Int) (s0 : Int) (F : Mem) : Option (Int × Mem) :=
  if (0 : Int) ≤ 6 ∧ 6 < (alen (o + 1) : Int) then
    if (0 : Int) ≤ (xw (10 + (F (o + 1) 6))) ∧ (xw (10 + (F (o + 1) 6))) < (alen (o + 1) : Int) then
      if (0 : Int) ≤ 6 ∧ 6 < (alen (o + 1) : Int) then
        if (0 : Int) ≤ 6 ∧ 6 < (alen (o + 1) : Int) then
          k21 o x1 x2 x3 x4 x5 (xw (x6 + 1)) (mset (mset F (o + 1) (xw (10 + (F (o + 1) 6))).toNat (xand (xshr s0 (xw (24 - (xw (8 * (Int.tmod x6 4)))))) 255)) (o + 1) 6 (xw (((mset F (o + 1) (xw (10 + (F (o + 1) 6))).toNat (xand (xshr s0 (xw (24 - (xw (8 * (Int.tmod x6 4)))))) 255)) (o + 1) 6) + 1)))
        else none
      else none
    else none
  else none
noncomputable def fX10_feed_b21 : Nat → Nat → Int → Int → Int → Int → Int → Int → Mem → Option (Int × Mem)
  | 0, _, _, _, _, _, _, _, _ => none
  | n + 1, o, x1, x2, x3, x4, x5, x6, F =>
    if 20 ≤ x6 then
      if (0 : Int) ≤ 6 ∧ 6 < (alen (o + 1) : Int) then
        some (F (o + 1) 6, F)
      else none
    else
      if 4 ≤ x6 then
        if 8 ≤ x6 then
          if 12 ≤ x6 then
            if 16 ≤ x6 then
              fX10_feed_b74 (fX10_feed_b21 n) o x1 x2 x3 x4 x5 x6 x5 F
            else
              fX10_feed_b74 (fX10_feed_b21 n) o x1 x2 x3 x4 x5 x6 x4 F
          else
            fX10_feed_b74 (fX10_feed_b21 n) o x1 x2 x3 x4 x5 x6 x3 F
        else
          fX10_feed_b74 (fX10_feed_b21 n) o x1 x2 x3 x4 x5 x6 x2 F
      else
        fX10_feed_b74 (fX10_feed_b21 n) o x1 x2 x3 x4 x5 x6 x1 F
noncomputable def fX10_feed (o : Nat) (x1 : Int) (x2 : Int) (x3 : Int) (x4 : Int) (x5 : Int) (F : Mem) : Option (Int × Mem) :=
  if (0 : Int) ≤ 6 ∧ 6 < (alen (o + 1) : Int) then
    if (xw ((F (o + 1) 6) + 20)) ≤ 600 then
      fX10_feed_b21 FU o x1 x2 x3 x4 x5 0 F
    else
      some ((-1), F)
  else none
theorem fX10_feed_b74_ok {Qr : Option PV → Mem → Prop}  (k21 : Nat → Int → Int → Int → Int → Int → Int → Mem → Option (Int × Mem)) (hk21 : ∀ (o : Nat) (x1 : Int) (x2 : Int) (x3 : Int) (x4 : Int) (x5 : Int) (x6 : Int) (F : Mem) (res : (Int × Mem)) (ho : isK o 10), k21 o x1 x2 x3 x4 x5 x6 F = some res → Qr (some (vI res.1)) res.2 → PR cX10_feed (zX10_feed Qr) 21 [(0, vR o), (1, vI x1), (2, vI x2), (3, vI x3), (4, vI x4), (5, vI x5), (6, vI x6)] [] F) : ∀ (o : Nat) (x1 : Int) (x2 : Int) (x3 : Int) (x4 : Int) (x5 : Int) (x6 : Int) (s0 : Int) (F : Mem) (res : (Int × Mem)) (ho : isK o 10), fX10_feed_b74 k21 o x1 x2 x3 x4 x5 x6 s0 F = some res → Qr (some (vI res.1)) res.2 → PR cX10_feed (zX10_feed Qr) 74 [(0, vR o), (1, vI x1), (2, vI x2), (3, vI x3), (4, vI x4), (5, vI x5), (6, vI x6)] [vI s0] F := by
  intro o x1 x2 x3 x4 x5 x6 s0 F res ho h hq
  refine s_istore (ls' := [(7, vI s0), (0, vR o), (1, vI x1), (2, vI x2), (3, vI x3), (4, vI x4), (5, vI x5), (6, vI x6)]) dX10_feed_74 (Nat.le_of_ble_eq_true rfl) rfl ?_
  refine s_aload_n (j := 1) dX10_feed_76 rfl rfl ?_
  refine s_getR dX10_feed_77 flX10_7 ho ?_
  refine s_bipush dX10_feed_80 rfl (cin rfl) ?_
  refine s_aload_n (j := 1) dX10_feed_82 rfl rfl ?_
  refine s_getR dX10_feed_83 flX10_7 ho ?_
  refine s_bipush dX10_feed_86 rfl (cin rfl) ?_
  obtain ⟨hb1, h⟩ := gd h
  refine s_iaload dX10_feed_88 (trX10_0 ho) hb1.1 hb1.2 ?_
  refine s_iadd dX10_feed_89 ?_
  refine s_iload (j := 0) dX10_feed_90 rfl ?_
  refine s_bipush dX10_feed_92 rfl (cin rfl) ?_
  refine s_bipush dX10_feed_94 rfl (cin rfl) ?_
  refine s_iload (j := 7) dX10_feed_96 rfl ?_
  refine s_iconst dX10_feed_98 (cin rfl) ?_
  refine s_irem dX10_feed_99 (by decide) ?_
  refine s_imul dX10_feed_100 ?_
  refine s_isub dX10_feed_101 ?_
  refine s_ishr dX10_feed_102 ?_
  refine s_sipush dX10_feed_103 rfl (cin rfl) ?_
  refine s_iand dX10_feed_106 ?_
  obtain ⟨hb2, h⟩ := gd h
  refine s_iastore dX10_feed_107 (trX10_0 ho) hb2.1 hb2.2 ?_
  refine s_aload_n (j := 1) dX10_feed_108 rfl rfl ?_
  refine s_getR dX10_feed_109 flX10_7 ho ?_
  refine s_bipush dX10_feed_112 rfl (cin rfl) ?_
  refine s_dup2 dX10_feed_114 rfl rfl ?_
  obtain ⟨hb3, h⟩ := gd h
  refine s_iaload dX10_feed_115 (trX10_0 ho) hb3.1 hb3.2 ?_
  refine s_iconst dX10_feed_116 (cin rfl) ?_
  refine s_iadd dX10_feed_117 ?_
  obtain ⟨hb4, h⟩ := gd h
  refine s_iastore dX10_feed_118 (trX10_0 ho) hb4.1 hb4.2 ?_
  refine s_iinc (j := 7) dX10_feed_119 rfl (Nat.le_of_ble_eq_true rfl) rfl ?_
  refine s_goto (tgt := 21) dX10_feed_122 rfl ?_
  exact s_sub (ks := [2, 3, 4, 5, 6, 7, 0]) rfl (hk21 o x1 x2 x3 x4 x5 (xw (x6 + 1)) (mset (mset F (o + 1) (xw (10 + (F (o + 1) 6))).toNat (xand (xshr s0 (xw (24 - (xw (8 * (Int.tmod x6 4)))))) 255)) (o + 1) 6 (xw (((mset F (o + 1) (xw (10 + (F (o + 1) 6))).toNat (xand (xshr s0 (xw (24 - (xw (8 * (Int.tmod x6 4)))))) 255)) (o + 1) 6) + 1))) _ ho h hq)
theorem fX10_feed_b21_ok {Qr : Option PV → Mem → Prop}  : ∀ (n : Nat) (o : Nat) (x1 : Int) (x2 : Int) (x3 : Int) (x4 : Int) (x5 : Int) (x6 : Int) (F : Mem) (res : (Int × Mem)) (ho : isK o 10), fX10_feed_b21 n o x1 x2 x3 x4 x5 x6 F = some res → Qr (some (vI res.1)) res.2 → PR cX10_feed (zX10_feed Qr) 21 [(0, vR o), (1, vI x1), (2, vI x2), (3, vI x3), (4, vI x4), (5, vI x5), (6, vI x6)] [] F := by
  intro n
  induction n with
  | zero => intro o x1 x2 x3 x4 x5 x6 F res ho h hq; exact nomatch (show (none : Option _) = some _ from h)
  | succ n ih =>
    intro o x1 x2 x3 x4 x5 x6 F res ho h hq
    refine s_iload (j := 6) dX10_feed_21 rfl ?_
    refine s_bipush dX10_feed_23 rfl (cin rfl) ?_
    refine s_icmp_ge (tgt := 125) dX10_feed_25 rfl (fun hc1 => ?_) (fun hc1 => ?_)
    · have h := ifp hc1 h
      refine s_aload_n (j := 0) dX10_feed_125 rfl rfl ?_
      refine s_getR dX10_feed_126 flX10_7 ho ?_
      refine s_bipush dX10_feed_129 rfl (cin rfl) ?_
      obtain ⟨hb2, h⟩ := gd h
      refine s_iaload dX10_feed_131 (trX10_0 ho) hb2.1 hb2.2 ?_
      have h := Option.some.inj h
      subst h
      exact s_ireturn dX10_feed_132 rfl hq
    · have h := ifn hc1 h
      refine s_iload (j := 6) dX10_feed_28 rfl ?_
      refine s_iconst dX10_feed_30 (cin rfl) ?_
      refine s_icmp_ge (tgt := 38) dX10_feed_31 rfl (fun hc3 => ?_) (fun hc3 => ?_)
      · have h := ifp hc3 h
        refine s_iload (j := 6) dX10_feed_38 rfl ?_
        refine s_bipush dX10_feed_40 rfl (cin rfl) ?_
        refine s_icmp_ge (tgt := 49) dX10_feed_42 rfl (fun hc4 => ?_) (fun hc4 => ?_)
        · have h := ifp hc4 h
          refine s_iload (j := 6) dX10_feed_49 rfl ?_
          refine s_bipush dX10_feed_51 rfl (cin rfl) ?_
          refine s_icmp_ge (tgt := 60) dX10_feed_53 rfl (fun hc5 => ?_) (fun hc5 => ?_)
          · have h := ifp hc5 h
            refine s_iload (j := 6) dX10_feed_60 rfl ?_
            refine s_bipush dX10_feed_62 rfl (cin rfl) ?_
            refine s_icmp_ge (tgt := 72) dX10_feed_64 rfl (fun hc6 => ?_) (fun hc6 => ?_)
            · have h := ifp hc6 h
              refine s_iload (j := 5) dX10_feed_72 rfl ?_
              exact s_sub (ks := [0, 1, 2, 3, 4, 5, 6]) rfl (fX10_feed_b74_ok (fX10_feed_b21 n) ih o x1 x2 x3 x4 x5 x6 x5 F _ ho h hq)
            · have h := ifn hc6 h
              refine s_iload (j := 4) dX10_feed_67 rfl ?_
              refine s_goto (tgt := 74) dX10_feed_69 rfl ?_
              exact s_sub (ks := [0, 1, 2, 3, 4, 5, 6]) rfl (fX10_feed_b74_ok (fX10_feed_b21 n) ih o x1 x2 x3 x4 x5 x6 x4 F _ ho h hq)
          · have h := ifn hc5 h
            refine s_iload_n (j := 3) dX10_feed_56 rfl rfl ?_
            refine s_goto (tgt := 74) dX10_feed_57 rfl ?_
            exact s_sub (ks := [0, 1, 2, 3, 4, 5, 6]) rfl (fX10_feed_b74_ok (fX10_feed_b21 n) ih o x1 x2 x3 x4 x5 x6 x3 F _ ho h hq)
        · have h := ifn hc4 h
          refine s_iload_n (j := 2) dX10_feed_45 rfl rfl ?_
          refine s_goto (tgt := 74) dX10_feed_46 rfl ?_
          exact s_sub (ks := [0, 1, 2, 3, 4, 5, 6]) rfl (fX10_feed_b74_ok (fX10_feed_b21 n) ih o x1 x2 x3 x4 x5 x6 x2 F _ ho h hq)
      · have h := ifn hc3 h
        refine s_iload_n (j := 1) dX10_feed_34 rfl rfl ?_
        refine s_goto (tgt := 74) dX10_feed_35 rfl ?_
        exact s_sub (ks := [0, 1, 2, 3, 4, 5, 6]) rfl (fX10_feed_b74_ok (fX10_feed_b21 n) ih o x1 x2 x3 x4 x5 x6 x1 F _ ho h hq)
theorem fX10_feed_ok {Qr : Option PV → Mem → Prop} : ∀ (o : Nat) (x1 : Int) (x2 : Int) (x3 : Int) (x4 : Int) (x5 : Int) (F : Mem) (res : (Int × Mem)) (ho : isK o 10), fX10_feed o x1 x2 x3 x4 x5 F = some res → Qr (some (vI res.1)) res.2 → PR cX10_feed (zX10_feed Qr) 0 [(0, vR o), (1, vI x1), (2, vI x2), (3, vI x3), (4, vI x4), (5, vI x5)] [] F := by
  intro o x1 x2 x3 x4 x5 F res ho h hq
  refine s_aload_n (j := 0) dX10_feed_0 rfl rfl ?_
  refine s_getR dX10_feed_1 flX10_7 ho ?_
  refine s_bipush dX10_feed_4 rfl (cin rfl) ?_
  obtain ⟨hb1, h⟩ := gd h
  refine s_iaload dX10_feed_6 (trX10_0 ho) hb1.1 hb1.2 ?_
  refine s_bipush dX10_feed_7 rfl (cin rfl) ?_
  refine s_iadd dX10_feed_9 ?_
  refine s_sipush dX10_feed_10 rfl (cin rfl) ?_
  refine s_icmp_le (tgt := 18) dX10_feed_13 rfl (fun hc2 => ?_) (fun hc2 => ?_)
  · have h := ifp hc2 h
    refine s_iconst dX10_feed_18 (cin rfl) ?_
    refine s_istore (ls' := [(6, vI 0), (0, vR o), (1, vI x1), (2, vI x2), (3, vI x3), (4, vI x4), (5, vI x5)]) dX10_feed_19 (Nat.le_of_ble_eq_true rfl) rfl ?_
    exact s_sub (ks := [1, 2, 3, 4, 5, 6, 0]) rfl (fX10_feed_b21_ok FU o x1 x2 x3 x4 x5 0 F _ ho h hq)
  · have h := ifn hc2 h
    refine s_iconst dX10_feed_16 (cin rfl) ?_
    have h := Option.some.inj h
    subst h
    exact s_ireturn dX10_feed_17 rfl hq
def gX10_feed : XG := fun As F r F' => ∃ o : Nat, ∃ x1 : Int, ∃ x2 : Int, ∃ x3 : Int, ∃ x4 : Int, ∃ x5 : Int, ∃ res : (Int × Mem), As = [vR o, vI x1, vI x2, vI x3, vI x4, vI x5] ∧ isK o 10 ∧ fX10_feed o x1 x2 x3 x4 x5 F = some res ∧ r = some (vI res.1) ∧ F' = res.2
theorem ctX10_feed : xCT yX10_feed cX10_feed 8 (some FieldType.int) 0 0 gX10_feed := xmet (by decide +kernel) (fun As F r F' hg => by obtain ⟨o, x1, x2, x3, x4, x5, res, rfl, ho, h, rfl, rfl⟩ := hg; exact Nat.le_of_ble_eq_true rfl) (fun As F r F' hg => by obtain ⟨o, x1, x2, x3, x4, x5, res, rfl, ho, h, rfl, rfl⟩ := hg; exact fX10_feed_ok o x1 x2 x3 x4 x5 _ _ ho h ⟨rfl, rfl⟩)
theorem mcX10_feed : Cond.code yX10_feed cX10_feed 8 (some FieldType.int) ∈ xw_T ∧ Cond.initialized yX10_feed.cls ∈ xw_T ∧ Cond.instanceMethod yX10_feed ∈ xw_T ∧ Cond.selects yX10_feed.cls yX10_feed yX10_feed ∈ xw_T := ⟨(xinT 1475 (by decide +kernel) (by decide +kernel)), (xinT 127 (by decide +kernel) (by decide +kernel)), (xinT 1473 (by decide +kernel) (by decide +kernel)), (xinT 1474 (by decide +kernel) (by decide +kernel))⟩
theorem dX10_end_0 : decode cX10_end 0 = .ok (.iload_n 1, 1) := by decide +kernel
theorem dX10_end_1 : decode cX10_end 1 = .ok (.ifCond .lt 14, 3) := by decide +kernel
theorem dX10_end_4 : decode cX10_end 4 = .ok (.iload_n 1, 1) := by decide +kernel
theorem dX10_end_5 : decode cX10_end 5 = .ok (.aload_n 0, 1) := by decide +kernel
theorem dX10_end_6 : decode cX10_end 6 = .ok (.getfield 7, 3) := by decide +kernel
theorem dX10_end_9 : decode cX10_end 9 = .ok (.bipush 6, 2) := by decide +kernel
theorem dX10_end_11 : decode cX10_end 11 = .ok (.iaload, 1) := by decide +kernel
theorem dX10_end_12 : decode cX10_end 12 = .ok (.if_icmp .le 5, 3) := by decide +kernel
theorem dX10_end_15 : decode cX10_end 15 = .ok (.iconst (-1), 1) := by decide +kernel
theorem dX10_end_16 : decode cX10_end 16 = .ok (.ireturn, 1) := by decide +kernel
theorem dX10_end_17 : decode cX10_end 17 = .ok (.aload_n 0, 1) := by decide +kernel
theorem dX10_end_18 : decode cX10_end 18 = .ok (.getfield 7, 3) := by decide +kernel
theorem dX10_end_21 : decode cX10_end 21 = .ok (.bipush 6, 2) := by decide +kernel
theorem dX10_end_23 : decode cX10_end 23 = .ok (.iload_n 1, 1) := by decide +kernel
theorem dX10_end_24 : decode cX10_end 24 = .ok (.iastore, 1) := by decide +kernel
theorem dX10_end_25 : decode cX10_end 25 = .ok (.iload_n 1, 1) := by decide +kernel
theorem dX10_end_26 : decode cX10_end 26 = .ok (.ireturn, 1) := by decide +kernel
def zX10_end (Qr : Option PV → Mem → Prop) : XZ := (RX10, 0, 0, 2, some FieldType.int, Qr)
noncomputable def fX10_end (o : Nat) (x1 : Int) (F : Mem) : Option (Int × Mem) :=
  if x1 < 0 then
    some ((-1), F)
  else
    if (0 : Int) ≤ 6 ∧ 6 < (alen (o + 1) : Int) then
      if x1 ≤ (F (o + 1) 6) then
        if (0 : Int) ≤ 6 ∧ 6 < (alen (o + 1) : Int) then
          some (x1, mset F (o + 1) 6 x1)
        else none
      else
        some ((-1), F)
    else none
theorem fX10_end_ok {Qr : Option PV → Mem → Prop} : ∀ (o : Nat) (x1 : Int) (F : Mem) (res : (Int × Mem)) (ho : isK o 10), fX10_end o x1 F = some res → Qr (some (vI res.1)) res.2 → PR cX10_end (zX10_end Qr) 0 [(0, vR o), (1, vI x1)] [] F := by
  intro o x1 F res ho h hq
  refine s_iload_n (j := 1) dX10_end_0 rfl rfl ?_
  refine s_if_lt (tgt := 15) dX10_end_1 rfl (fun hc1 => ?_) (fun hc1 => ?_)
  · have h := ifp hc1 h
    refine s_iconst dX10_end_15 (cin rfl) ?_
    have h := Option.some.inj h
    subst h
    exact s_ireturn dX10_end_16 rfl hq
  · have h := ifn hc1 h
    refine s_iload_n (j := 1) dX10_end_4 rfl rfl ?_
    refine s_aload_n (j := 0) dX10_end_5 rfl rfl ?_
    refine s_getR dX10_end_6 flX10_7 ho ?_
    refine s_bipush dX10_end_9 rfl (cin rfl) ?_
    obtain ⟨hb2, h⟩ := gd h
    refine s_iaload dX10_end_11 (trX10_0 ho) hb2.1 hb2.2 ?_
    refine s_icmp_le (tgt := 17) dX10_end_12 rfl (fun hc3 => ?_) (fun hc3 => ?_)
    · have h := ifp hc3 h
      refine s_aload_n (j := 0) dX10_end_17 rfl rfl ?_
      refine s_getR dX10_end_18 flX10_7 ho ?_
      refine s_bipush dX10_end_21 rfl (cin rfl) ?_
      refine s_iload_n (j := 1) dX10_end_23 rfl rfl ?_
      obtain ⟨hb4, h⟩ := gd h
      refine s_iastore dX10_end_24 (trX10_0 ho) hb4.1 hb4.2 ?_
      refine s_iload_n (j := 1) dX10_end_25 rfl rfl ?_
      have h := Option.some.inj h
      subst h
      exact s_ireturn dX10_end_26 rfl hq
    · have h := ifn hc3 h
      refine s_iconst dX10_end_15 (cin rfl) ?_
      have h := Option.some.inj h
      subst h
      exact s_ireturn dX10_end_16 rfl hq
def gX10_end : XG := fun As F r F' => ∃ o : Nat, ∃ x1 : Int, ∃ res : (Int × Mem), As = [vR o, vI x1] ∧ isK o 10 ∧ fX10_end o x1 F = some res ∧ r = some (vI res.1) ∧ F' = res.2
theorem ctX10_end : xCT yX10_end cX10_end 2 (some FieldType.int) 0 0 gX10_end := xmet (by decide +kernel) (fun As F r F' hg => by obtain ⟨o, x1, res, rfl, ho, h, rfl, rfl⟩ := hg; exact Nat.le_of_ble_eq_true rfl) (fun As F r F' hg => by obtain ⟨o, x1, res, rfl, ho, h, rfl, rfl⟩ := hg; exact fX10_end_ok o x1 _ _ ho h ⟨rfl, rfl⟩)
theorem mcX10_end : Cond.code yX10_end cX10_end 2 (some FieldType.int) ∈ xw_T ∧ Cond.initialized yX10_end.cls ∈ xw_T ∧ Cond.instanceMethod yX10_end ∈ xw_T ∧ Cond.selects yX10_end.cls yX10_end yX10_end ∈ xw_T := ⟨(xinT 1479 (by decide +kernel) (by decide +kernel)), (xinT 127 (by decide +kernel) (by decide +kernel)), (xinT 1477 (by decide +kernel) (by decide +kernel)), (xinT 1478 (by decide +kernel) (by decide +kernel))⟩
theorem dX10_byteAt_0 : decode cX10_byteAt 0 = .ok (.iload_n 1, 1) := by decide +kernel
theorem dX10_byteAt_1 : decode cX10_byteAt 1 = .ok (.aload_n 0, 1) := by decide +kernel
theorem dX10_byteAt_2 : decode cX10_byteAt 2 = .ok (.getfield 68, 3) := by decide +kernel
theorem dX10_byteAt_5 : decode cX10_byteAt 5 = .ok (.if_icmp .ge 15, 3) := by decide +kernel
theorem dX10_byteAt_8 : decode cX10_byteAt 8 = .ok (.aload_n 0, 1) := by decide +kernel
theorem dX10_byteAt_9 : decode cX10_byteAt 9 = .ok (.getfield 7, 3) := by decide +kernel
theorem dX10_byteAt_12 : decode cX10_byteAt 12 = .ok (.bipush 10, 2) := by decide +kernel
theorem dX10_byteAt_14 : decode cX10_byteAt 14 = .ok (.iload_n 1, 1) := by decide +kernel
theorem dX10_byteAt_15 : decode cX10_byteAt 15 = .ok (.iadd, 1) := by decide +kernel
theorem dX10_byteAt_16 : decode cX10_byteAt 16 = .ok (.iaload, 1) := by decide +kernel
theorem dX10_byteAt_17 : decode cX10_byteAt 17 = .ok (.goto 4, 3) := by decide +kernel
theorem dX10_byteAt_20 : decode cX10_byteAt 20 = .ok (.iconst (-1), 1) := by decide +kernel
theorem dX10_byteAt_21 : decode cX10_byteAt 21 = .ok (.ireturn, 1) := by decide +kernel
def zX10_byteAt (Qr : Option PV → Mem → Prop) : XZ := (RX10, 0, 0, 2, some FieldType.int, Qr)
noncomputable def fX10_byteAt (o : Nat) (x1 : Int) (F : Mem) : Option Int :=
  if (F o 2) ≤ x1 then
    some (-1)
  else
    if (0 : Int) ≤ (xw (10 + x1)) ∧ (xw (10 + x1)) < (alen (o + 1) : Int) then
      some (F (o + 1) (xw (10 + x1)).toNat)
    else none
theorem fX10_byteAt_ok {Qr : Option PV → Mem → Prop} : ∀ (o : Nat) (x1 : Int) (F : Mem) (res : Int) (ho : isK o 10), fX10_byteAt o x1 F = some res → Qr (some (vI res)) F → PR cX10_byteAt (zX10_byteAt Qr) 0 [(0, vR o), (1, vI x1)] [] F := by
  intro o x1 F res ho h hq
  refine s_iload_n (j := 1) dX10_byteAt_0 rfl rfl ?_
  refine s_aload_n (j := 0) dX10_byteAt_1 rfl rfl ?_
  refine s_getI dX10_byteAt_2 flX10_68 ho ?_
  refine s_icmp_ge (tgt := 20) dX10_byteAt_5 rfl (fun hc1 => ?_) (fun hc1 => ?_)
  · have h := ifp hc1 h
    refine s_iconst dX10_byteAt_20 (cin rfl) ?_
    have h := Option.some.inj h
    subst h
    exact s_ireturn dX10_byteAt_21 rfl hq
  · have h := ifn hc1 h
    refine s_aload_n (j := 0) dX10_byteAt_8 rfl rfl ?_
    refine s_getR dX10_byteAt_9 flX10_7 ho ?_
    refine s_bipush dX10_byteAt_12 rfl (cin rfl) ?_
    refine s_iload_n (j := 1) dX10_byteAt_14 rfl rfl ?_
    refine s_iadd dX10_byteAt_15 ?_
    obtain ⟨hb2, h⟩ := gd h
    refine s_iaload dX10_byteAt_16 (trX10_0 ho) hb2.1 hb2.2 ?_
    refine s_goto (tgt := 21) dX10_byteAt_17 rfl ?_
    have h := Option.some.inj h
    subst h
    exact s_ireturn dX10_byteAt_21 rfl hq
def gX10_byteAt : XG := fun As F r F' => ∃ o : Nat, ∃ x1 : Int, ∃ res : Int, As = [vR o, vI x1] ∧ isK o 10 ∧ fX10_byteAt o x1 F = some res ∧ r = some (vI res) ∧ F' = F
theorem ctX10_byteAt : xCT yX10_byteAt cX10_byteAt 2 (some FieldType.int) 0 0 gX10_byteAt := xmet (by decide +kernel) (fun As F r F' hg => by obtain ⟨o, x1, res, rfl, ho, h, rfl, rfl⟩ := hg; exact Nat.le_of_ble_eq_true rfl) (fun As F r F' hg => by obtain ⟨o, x1, res, rfl, ho, h, rfl, rfl⟩ := hg; exact fX10_byteAt_ok o x1 _ _ ho h ⟨rfl, rfl⟩)
theorem mcX10_byteAt : Cond.code yX10_byteAt cX10_byteAt 2 (some FieldType.int) ∈ xw_T ∧ Cond.initialized yX10_byteAt.cls ∈ xw_T ∧ Cond.instanceMethod yX10_byteAt ∈ xw_T ∧ Cond.selects yX10_byteAt.cls yX10_byteAt yX10_byteAt ∈ xw_T := ⟨(xinT 1498 (by decide +kernel) (by decide +kernel)), (xinT 127 (by decide +kernel) (by decide +kernel)), (xinT 1497 (by decide +kernel) (by decide +kernel)), (xinT 42 (by decide +kernel) (by decide +kernel))⟩
theorem clX10_83 {fr lo : Nat} (h1 : 0 + 1 ≤ fr) (h2 : 8 + (2 + 11) + 0 ≤ lo) : xCall RX10 fr lo 0 83 10 1 gX10_byteAt := ⟨_, _, _, _, _, _, ctX10_byteAt, h1, h2, mcX10_byteAt.1, (xinT 1495 (by decide +kernel) (by decide +kernel)), mcX10_byteAt.2.1, ⟨by decide +kernel, by decide +kernel, by decide +kernel⟩, by rw [if_pos rfl]; exact ⟨mcX10_byteAt.2.2.1, mcX10_byteAt.2.2.2, _, _, rfl⟩⟩
theorem dX10_isLetter_0 : decode cX10_isLetter 0 = .ok (.iload_n 0, 1) := by decide +kernel
theorem dX10_isLetter_1 : decode cX10_isLetter 1 = .ok (.bipush 97, 2) := by decide +kernel
theorem dX10_isLetter_3 : decode cX10_isLetter 3 = .ok (.if_icmp .lt 13, 3) := by decide +kernel
theorem dX10_isLetter_6 : decode cX10_isLetter 6 = .ok (.iload_n 0, 1) := by decide +kernel
theorem dX10_isLetter_7 : decode cX10_isLetter 7 = .ok (.bipush 122, 2) := by decide +kernel
theorem dX10_isLetter_9 : decode cX10_isLetter 9 = .ok (.if_icmp .gt 7, 3) := by decide +kernel
theorem dX10_isLetter_12 : decode cX10_isLetter 12 = .ok (.iconst 1, 1) := by decide +kernel
theorem dX10_isLetter_13 : decode cX10_isLetter 13 = .ok (.goto 4, 3) := by decide +kernel
theorem dX10_isLetter_16 : decode cX10_isLetter 16 = .ok (.iconst 0, 1) := by decide +kernel
theorem dX10_isLetter_17 : decode cX10_isLetter 17 = .ok (.ireturn, 1) := by decide +kernel
def zX10_isLetter (Qr : Option PV → Mem → Prop) : XZ := (RX10, 0, 0, 1, some FieldType.boolean, Qr)
noncomputable def fX10_isLetter (x0 : Int) : Int :=
  if x0 < 97 then
    0
  else
    if 122 < x0 then
      0
    else
      1
theorem fX10_isLetter_ok {Qr : Option PV → Mem → Prop} : ∀ (x0 : Int) (F : Mem) (res : Int), fX10_isLetter x0 = res → Qr (some (vI res)) F → PR cX10_isLetter (zX10_isLetter Qr) 0 [(0, vI x0)] [] F := by
  intro x0 F res  h hq
  refine s_iload_n (j := 0) dX10_isLetter_0 rfl rfl ?_
  refine s_bipush dX10_isLetter_1 rfl (cin rfl) ?_
  refine s_icmp_lt (tgt := 16) dX10_isLetter_3 rfl (fun hc1 => ?_) (fun hc1 => ?_)
  · have h := ifp hc1 h
    refine s_iconst dX10_isLetter_16 (cin rfl) ?_
    subst h
    exact s_zreturn dX10_isLetter_17 rfl (Or.inl rfl) hq
  · have h := ifn hc1 h
    refine s_iload_n (j := 0) dX10_isLetter_6 rfl rfl ?_
    refine s_bipush dX10_isLetter_7 rfl (cin rfl) ?_
    refine s_icmp_gt (tgt := 16) dX10_isLetter_9 rfl (fun hc2 => ?_) (fun hc2 => ?_)
    · have h := ifp hc2 h
      refine s_iconst dX10_isLetter_16 (cin rfl) ?_
      subst h
      exact s_zreturn dX10_isLetter_17 rfl (Or.inl rfl) hq
    · have h := ifn hc2 h
      refine s_iconst dX10_isLetter_12 (cin rfl) ?_
      refine s_goto (tgt := 17) dX10_isLetter_13 rfl ?_
      subst h
      exact s_zreturn dX10_isLetter_17 rfl (Or.inr rfl) hq
def gX10_isLetter : XG := fun As F r F' => ∃ x0 : Int, ∃ res : Int, As = [vI x0] ∧ fX10_isLetter x0 = res ∧ r = some (vI res) ∧ F' = F
theorem ctX10_isLetter : xCT yX10_isLetter cX10_isLetter 1 (some FieldType.boolean) 0 0 gX10_isLetter := xmet (by decide +kernel) (fun As F r F' hg => by obtain ⟨x0, res, rfl, h, rfl, rfl⟩ := hg; exact Nat.le_of_ble_eq_true rfl) (fun As F r F' hg => by obtain ⟨x0, res, rfl, h, rfl, rfl⟩ := hg; exact fX10_isLetter_ok x0 _ _  h ⟨rfl, rfl⟩)
theorem mcX10_isLetter : Cond.code yX10_isLetter cX10_isLetter 1 (some FieldType.boolean) ∈ xw_T ∧ Cond.initialized yX10_isLetter.cls ∈ xw_T ∧ Cond.static yX10_isLetter ∈ xw_T := ⟨(xinT 1501 (by decide +kernel) (by decide +kernel)), (xinT 127 (by decide +kernel) (by decide +kernel)), (xinT 1500 (by decide +kernel) (by decide +kernel))⟩
theorem clX10_93 {fr lo : Nat} (h1 : 0 + 1 ≤ fr) (h2 : 8 + (1 + 11) + 0 ≤ lo) : xCall RX10 fr lo 1 93 0 1 gX10_isLetter := ⟨_, _, _, _, _, _, ctX10_isLetter, h1, h2, mcX10_isLetter.1, (xinT 1499 (by decide +kernel) (by decide +kernel)), mcX10_isLetter.2.1, ⟨by decide +kernel, by decide +kernel, by decide +kernel⟩, by rw [if_neg (by decide)]; exact mcX10_isLetter.2.2⟩
theorem dX10_isDigit_0 : decode cX10_isDigit 0 = .ok (.iload_n 0, 1) := by decide +kernel
theorem dX10_isDigit_1 : decode cX10_isDigit 1 = .ok (.bipush 48, 2) := by decide +kernel
theorem dX10_isDigit_3 : decode cX10_isDigit 3 = .ok (.if_icmp .lt 13, 3) := by decide +kernel
theorem dX10_isDigit_6 : decode cX10_isDigit 6 = .ok (.iload_n 0, 1) := by decide +kernel
theorem dX10_isDigit_7 : decode cX10_isDigit 7 = .ok (.bipush 57, 2) := by decide +kernel
theorem dX10_isDigit_9 : decode cX10_isDigit 9 = .ok (.if_icmp .gt 7, 3) := by decide +kernel
theorem dX10_isDigit_12 : decode cX10_isDigit 12 = .ok (.iconst 1, 1) := by decide +kernel
theorem dX10_isDigit_13 : decode cX10_isDigit 13 = .ok (.goto 4, 3) := by decide +kernel
theorem dX10_isDigit_16 : decode cX10_isDigit 16 = .ok (.iconst 0, 1) := by decide +kernel
theorem dX10_isDigit_17 : decode cX10_isDigit 17 = .ok (.ireturn, 1) := by decide +kernel
def zX10_isDigit (Qr : Option PV → Mem → Prop) : XZ := (RX10, 0, 0, 1, some FieldType.boolean, Qr)
noncomputable def fX10_isDigit (x0 : Int) : Int :=
  if x0 < 48 then
    0
  else
    if 57 < x0 then
      0
    else
      1
theorem fX10_isDigit_ok {Qr : Option PV → Mem → Prop} : ∀ (x0 : Int) (F : Mem) (res : Int), fX10_isDigit x0 = res → Qr (some (vI res)) F → PR cX10_isDigit (zX10_isDigit Qr) 0 [(0, vI x0)] [] F := by
  intro x0 F res  h hq
  refine s_iload_n (j := 0) dX10_isDigit_0 rfl rfl ?_
  refine s_bipush dX10_isDigit_1 rfl (cin rfl) ?_
  refine s_icmp_lt (tgt := 16) dX10_isDigit_3 rfl (fun hc1 => ?_) (fun hc1 => ?_)
  · have h := ifp hc1 h
    refine s_iconst dX10_isDigit_16 (cin rfl) ?_
    subst h
    exact s_zreturn dX10_isDigit_17 rfl (Or.inl rfl) hq
  · have h := ifn hc1 h
    refine s_iload_n (j := 0) dX10_isDigit_6 rfl rfl ?_
    refine s_bipush dX10_isDigit_7 rfl (cin rfl) ?_
    refine s_icmp_gt (tgt := 16) dX10_isDigit_9 rfl (fun hc2 => ?_) (fun hc2 => ?_)
    · have h := ifp hc2 h
      refine s_iconst dX10_isDigit_16 (cin rfl) ?_
      subst h
      exact s_zreturn dX10_isDigit_17 rfl (Or.inl rfl) hq
    · have h := ifn hc2 h
      refine s_iconst dX10_isDigit_12 (cin rfl) ?_
      refine s_goto (tgt := 17) dX10_isDigit_13 rfl ?_
      subst h
      exact s_zreturn dX10_isDigit_17 rfl (Or.inr rfl) hq
def gX10_isDigit : XG := fun As F r F' => ∃ x0 : Int, ∃ res : Int, As = [vI x0] ∧ fX10_isDigit x0 = res ∧ r = some (vI res) ∧ F' = F
theorem ctX10_isDigit : xCT yX10_isDigit cX10_isDigit 1 (some FieldType.boolean) 0 0 gX10_isDigit := xmet (by decide +kernel) (fun As F r F' hg => by obtain ⟨x0, res, rfl, h, rfl, rfl⟩ := hg; exact Nat.le_of_ble_eq_true rfl) (fun As F r F' hg => by obtain ⟨x0, res, rfl, h, rfl, rfl⟩ := hg; exact fX10_isDigit_ok x0 _ _  h ⟨rfl, rfl⟩)
theorem mcX10_isDigit : Cond.code yX10_isDigit cX10_isDigit 1 (some FieldType.boolean) ∈ xw_T ∧ Cond.initialized yX10_isDigit.cls ∈ xw_T ∧ Cond.static yX10_isDigit ∈ xw_T := ⟨(xinT 1514 (by decide +kernel) (by decide +kernel)), (xinT 127 (by decide +kernel) (by decide +kernel)), (xinT 1513 (by decide +kernel) (by decide +kernel))⟩
theorem clX10_103 {fr lo : Nat} (h1 : 0 + 1 ≤ fr) (h2 : 8 + (1 + 11) + 0 ≤ lo) : xCall RX10 fr lo 1 103 0 1 gX10_isDigit := ⟨_, _, _, _, _, _, ctX10_isDigit, h1, h2, mcX10_isDigit.1, (xinT 1512 (by decide +kernel) (by decide +kernel)), mcX10_isDigit.2.1, ⟨by decide +kernel, by decide +kernel, by decide +kernel⟩, by rw [if_neg (by decide)]; exact mcX10_isDigit.2.2⟩
theorem dX10_three_0 : decode cX10_three 0 = .ok (.iload_n 0, 1) := by decide +kernel
theorem dX10_three_1 : decode cX10_three 1 = .ok (.bipush 32, 2) := by decide +kernel
theorem dX10_three_3 : decode cX10_three 3 = .ok (.imul, 1) := by decide +kernel
theorem dX10_three_4 : decode cX10_three 4 = .ok (.iload_n 1, 1) := by decide +kernel
theorem dX10_three_5 : decode cX10_three 5 = .ok (.iadd, 1) := by decide +kernel
theorem dX10_three_6 : decode cX10_three 6 = .ok (.bipush 32, 2) := by decide +kernel
theorem dX10_three_8 : decode cX10_three 8 = .ok (.imul, 1) := by decide +kernel
theorem dX10_three_9 : decode cX10_three 9 = .ok (.iload_n 2, 1) := by decide +kernel
theorem dX10_three_10 : decode cX10_three 10 = .ok (.iadd, 1) := by decide +kernel
theorem dX10_three_11 : decode cX10_three 11 = .ok (.ireturn, 1) := by decide +kernel
def zX10_three (Qr : Option PV → Mem → Prop) : XZ := (RX10, 0, 0, 3, some FieldType.int, Qr)
noncomputable def fX10_three (x0 : Int) (x1 : Int) (x2 : Int) : Int :=
  xw ((xw ((xw ((xw (x0 * 32)) + x1)) * 32)) + x2)
theorem fX10_three_ok {Qr : Option PV → Mem → Prop} : ∀ (x0 : Int) (x1 : Int) (x2 : Int) (F : Mem) (res : Int), fX10_three x0 x1 x2 = res → Qr (some (vI res)) F → PR cX10_three (zX10_three Qr) 0 [(0, vI x0), (1, vI x1), (2, vI x2)] [] F := by
  intro x0 x1 x2 F res  h hq
  refine s_iload_n (j := 0) dX10_three_0 rfl rfl ?_
  refine s_bipush dX10_three_1 rfl (cin rfl) ?_
  refine s_imul dX10_three_3 ?_
  refine s_iload_n (j := 1) dX10_three_4 rfl rfl ?_
  refine s_iadd dX10_three_5 ?_
  refine s_bipush dX10_three_6 rfl (cin rfl) ?_
  refine s_imul dX10_three_8 ?_
  refine s_iload_n (j := 2) dX10_three_9 rfl rfl ?_
  refine s_iadd dX10_three_10 ?_
  subst h
  exact s_ireturn dX10_three_11 rfl hq
def gX10_three : XG := fun As F r F' => ∃ x0 : Int, ∃ x1 : Int, ∃ x2 : Int, ∃ res : Int, As = [vI x0, vI x1, vI x2] ∧ fX10_three x0 x1 x2 = res ∧ r = some (vI res) ∧ F' = F
theorem ctX10_three : xCT yX10_three cX10_three 3 (some FieldType.int) 0 0 gX10_three := xmet (by decide +kernel) (fun As F r F' hg => by obtain ⟨x0, x1, x2, res, rfl, h, rfl, rfl⟩ := hg; exact Nat.le_of_ble_eq_true rfl) (fun As F r F' hg => by obtain ⟨x0, x1, x2, res, rfl, h, rfl, rfl⟩ := hg; exact fX10_three_ok x0 x1 x2 _ _  h ⟨rfl, rfl⟩)
theorem mcX10_three : Cond.code yX10_three cX10_three 3 (some FieldType.int) ∈ xw_T ∧ Cond.initialized yX10_three.cls ∈ xw_T ∧ Cond.static yX10_three ∈ xw_T := ⟨(xinT 1510 (by decide +kernel) (by decide +kernel)), (xinT 127 (by decide +kernel) (by decide +kernel)), (xinT 1509 (by decide +kernel) (by decide +kernel))⟩
theorem clX10_71 {fr lo : Nat} (h1 : 0 + 1 ≤ fr) (h2 : 8 + (3 + 11) + 0 ≤ lo) : xCall RX10 fr lo 1 71 0 3 gX10_three := ⟨_, _, _, _, _, _, ctX10_three, h1, h2, mcX10_three.1, (xinT 1508 (by decide +kernel) (by decide +kernel)), mcX10_three.2.1, ⟨by decide +kernel, by decide +kernel, by decide +kernel⟩, by rw [if_neg (by decide)]; exact mcX10_three.2.2⟩
theorem dX10_six_0 : decode cX10_six 0 = .ok (.iload_n 0, 1) := by decide +kernel
theorem dX10_six_1 : decode cX10_six 1 = .ok (.iload_n 1, 1) := by decide +kernel
theorem dX10_six_2 : decode cX10_six 2 = .ok (.iload_n 2, 1) := by decide +kernel
theorem dX10_six_3 : decode cX10_six 3 = .ok (.invokestatic 71, 3) := by decide +kernel
theorem dX10_six_6 : decode cX10_six 6 = .ok (.ldc 75, 2) := by decide +kernel
theorem dX10_six_8 : decode cX10_six 8 = .ok (.imul, 1) := by decide +kernel
theorem dX10_six_9 : decode cX10_six 9 = .ok (.iload_n 3, 1) := by decide +kernel
theorem dX10_six_10 : decode cX10_six 10 = .ok (.iload 4, 2) := by decide +kernel
theorem dX10_six_12 : decode cX10_six 12 = .ok (.iload 5, 2) := by decide +kernel
theorem dX10_six_14 : decode cX10_six 14 = .ok (.invokestatic 71, 3) := by decide +kernel
theorem dX10_six_17 : decode cX10_six 17 = .ok (.iadd, 1) := by decide +kernel
theorem dX10_six_18 : decode cX10_six 18 = .ok (.ireturn, 1) := by decide +kernel
def zX10_six (Qr : Option PV → Mem → Prop) : XZ := (RX10, 1, 22, 6, some FieldType.int, Qr)
noncomputable def fX10_six (x0 : Int) (x1 : Int) (x2 : Int) (x3 : Int) (x4 : Int) (x5 : Int) : Int :=
  xw ((xw ((fX10_three x0 x1 x2) * 32768)) + (fX10_three x3 x4 x5))
theorem fX10_six_ok {Qr : Option PV → Mem → Prop} : ∀ (x0 : Int) (x1 : Int) (x2 : Int) (x3 : Int) (x4 : Int) (x5 : Int) (F : Mem) (res : Int), fX10_six x0 x1 x2 x3 x4 x5 = res → Qr (some (vI res)) F → PR cX10_six (zX10_six Qr) 0 [(0, vI x0), (1, vI x1), (2, vI x2), (3, vI x3), (4, vI x4), (5, vI x5)] [] F := by
  intro x0 x1 x2 x3 x4 x5 F res  h hq
  refine s_iload_n (j := 0) dX10_six_0 rfl rfl ?_
  refine s_iload_n (j := 1) dX10_six_1 rfl rfl ?_
  refine s_iload_n (j := 2) dX10_six_2 rfl rfl ?_
  refine s_callS (As := [vI x0, vI x1, vI x2]) (rest := []) (r := (some (vI (fX10_three x0 x1 x2)))) (F' := F) dX10_six_3 (clX10_71 (Nat.le_of_ble_eq_true rfl) (Nat.le_of_ble_eq_true rfl)) rfl ⟨_, _, _, _, rfl, rfl, rfl, rfl⟩ rfl (Nat.le_of_ble_eq_true rfl) ?_
  refine s_ldc dX10_six_6 kcX10_75 (cin rfl) ?_
  refine s_imul dX10_six_8 ?_
  refine s_iload_n (j := 3) dX10_six_9 rfl rfl ?_
  refine s_iload (j := 4) dX10_six_10 rfl ?_
  refine s_iload (j := 5) dX10_six_12 rfl ?_
  refine s_callS (As := [vI x3, vI x4, vI x5]) (rest := [vI (xw ((fX10_three x0 x1 x2) * 32768))]) (r := (some (vI (fX10_three x3 x4 x5)))) (F' := F) dX10_six_14 (clX10_71 (Nat.le_of_ble_eq_true rfl) (Nat.le_of_ble_eq_true rfl)) rfl ⟨_, _, _, _, rfl, rfl, rfl, rfl⟩ rfl (Nat.le_of_ble_eq_true rfl) ?_
  refine s_iadd dX10_six_17 ?_
  subst h
  exact s_ireturn dX10_six_18 rfl hq
def gX10_six : XG := fun As F r F' => ∃ x0 : Int, ∃ x1 : Int, ∃ x2 : Int, ∃ x3 : Int, ∃ x4 : Int, ∃ x5 : Int, ∃ res : Int, As = [vI x0, vI x1, vI x2, vI x3, vI x4, vI x5] ∧ fX10_six x0 x1 x2 x3 x4 x5 = res ∧ r = some (vI res) ∧ F' = F
theorem ctX10_six : xCT yX10_six cX10_six 6 (some FieldType.int) 1 22 gX10_six := xmet (by decide +kernel) (fun As F r F' hg => by obtain ⟨x0, x1, x2, x3, x4, x5, res, rfl, h, rfl, rfl⟩ := hg; exact Nat.le_of_ble_eq_true rfl) (fun As F r F' hg => by obtain ⟨x0, x1, x2, x3, x4, x5, res, rfl, h, rfl, rfl⟩ := hg; exact fX10_six_ok x0 x1 x2 x3 x4 x5 _ _  h ⟨rfl, rfl⟩)
theorem mcX10_six : Cond.code yX10_six cX10_six 6 (some FieldType.int) ∈ xw_T ∧ Cond.initialized yX10_six.cls ∈ xw_T ∧ Cond.static yX10_six ∈ xw_T := ⟨(xinT 1507 (by decide +kernel) (by decide +kernel)), (xinT 127 (by decide +kernel) (by decide +kernel)), (xinT 1506 (by decide +kernel) (by decide +kernel))⟩
theorem clX10_76 {fr lo : Nat} (h1 : 1 + 1 ≤ fr) (h2 : 8 + (6 + 11) + 22 ≤ lo) : xCall RX10 fr lo 1 76 0 6 gX10_six := ⟨_, _, _, _, _, _, ctX10_six, h1, h2, mcX10_six.1, (xinT 1505 (by decide +kernel) (by decide +kernel)), mcX10_six.2.1, ⟨by decide +kernel, by decide +kernel, by decide +kernel⟩, by rw [if_neg (by decide)]; exact mcX10_six.2.2⟩
theorem dX10_wordOf_0 : decode cX10_wordOf 0 = .ok (.iload_n 0, 1) := by decide +kernel
theorem dX10_wordOf_1 : decode cX10_wordOf 1 = .ok (.iconst 0, 1) := by decide +kernel
theorem dX10_wordOf_2 : decode cX10_wordOf 2 = .ok (.bipush 19, 2) := by decide +kernel
theorem dX10_wordOf_4 : decode cX10_wordOf 4 = .ok (.bipush 12, 2) := by decide +kernel
theorem dX10_wordOf_6 : decode cX10_wordOf 6 = .ok (.bipush 15, 2) := by decide +kernel
theorem dX10_wordOf_8 : decode cX10_wordOf 8 = .ok (.bipush 20, 2) := by decide +kernel
theorem dX10_wordOf_10 : decode cX10_wordOf 10 = .ok (.bipush 19, 2) := by decide +kernel
theorem dX10_wordOf_12 : decode cX10_wordOf 12 = .ok (.invokestatic 76, 3) := by decide +kernel
theorem dX10_wordOf_15 : decode cX10_wordOf 15 = .ok (.if_icmp .ne 5, 3) := by decide +kernel
theorem dX10_wordOf_18 : decode cX10_wordOf 18 = .ok (.iconst 1, 1) := by decide +kernel
theorem dX10_wordOf_19 : decode cX10_wordOf 19 = .ok (.ireturn, 1) := by decide +kernel
theorem dX10_wordOf_20 : decode cX10_wordOf 20 = .ok (.iload_n 0, 1) := by decide +kernel
theorem dX10_wordOf_21 : decode cX10_wordOf 21 = .ok (.iconst 0, 1) := by decide +kernel
theorem dX10_wordOf_22 : decode cX10_wordOf 22 = .ok (.iconst 0, 1) := by decide +kernel
theorem dX10_wordOf_23 : decode cX10_wordOf 23 = .ok (.bipush 16, 2) := by decide +kernel
theorem dX10_wordOf_25 : decode cX10_wordOf 25 = .ok (.iconst 1, 1) := by decide +kernel
theorem dX10_wordOf_26 : decode cX10_wordOf 26 = .ok (.iconst 3, 1) := by decide +kernel
theorem dX10_wordOf_27 : decode cX10_wordOf 27 = .ok (.iconst 5, 1) := by decide +kernel
theorem dX10_wordOf_28 : decode cX10_wordOf 28 = .ok (.invokestatic 76, 3) := by decide +kernel
theorem dX10_wordOf_31 : decode cX10_wordOf 31 = .ok (.if_icmp .ne 5, 3) := by decide +kernel
theorem dX10_wordOf_34 : decode cX10_wordOf 34 = .ok (.iconst 2, 1) := by decide +kernel
theorem dX10_wordOf_35 : decode cX10_wordOf 35 = .ok (.ireturn, 1) := by decide +kernel
theorem dX10_wordOf_36 : decode cX10_wordOf 36 = .ok (.iload_n 0, 1) := by decide +kernel
theorem dX10_wordOf_37 : decode cX10_wordOf 37 = .ok (.iconst 0, 1) := by decide +kernel
theorem dX10_wordOf_38 : decode cX10_wordOf 38 = .ok (.bipush 12, 2) := by decide +kernel
theorem dX10_wordOf_40 : decode cX10_wordOf 40 = .ok (.bipush 9, 2) := by decide +kernel
theorem dX10_wordOf_42 : decode cX10_wordOf 42 = .ok (.bipush 7, 2) := by decide +kernel
theorem dX10_wordOf_44 : decode cX10_wordOf 44 = .ok (.bipush 8, 2) := by decide +kernel
theorem dX10_wordOf_46 : decode cX10_wordOf 46 = .ok (.bipush 20, 2) := by decide +kernel
theorem dX10_wordOf_48 : decode cX10_wordOf 48 = .ok (.invokestatic 76, 3) := by decide +kernel
theorem dX10_wordOf_51 : decode cX10_wordOf 51 = .ok (.if_icmp .ne 5, 3) := by decide +kernel
theorem dX10_wordOf_54 : decode cX10_wordOf 54 = .ok (.iconst 3, 1) := by decide +kernel
theorem dX10_wordOf_55 : decode cX10_wordOf 55 = .ok (.ireturn, 1) := by decide +kernel
theorem dX10_wordOf_56 : decode cX10_wordOf 56 = .ok (.iload_n 0, 1) := by decide +kernel
theorem dX10_wordOf_57 : decode cX10_wordOf 57 = .ok (.iconst 0, 1) := by decide +kernel
theorem dX10_wordOf_58 : decode cX10_wordOf 58 = .ok (.bipush 19, 2) := by decide +kernel
theorem dX10_wordOf_60 : decode cX10_wordOf 60 = .ok (.bipush 20, 2) := by decide +kernel
theorem dX10_wordOf_62 : decode cX10_wordOf 62 = .ok (.iconst 1, 1) := by decide +kernel
theorem dX10_wordOf_63 : decode cX10_wordOf 63 = .ok (.bipush 18, 2) := by decide +kernel
theorem dX10_wordOf_65 : decode cX10_wordOf 65 = .ok (.bipush 20, 2) := by decide +kernel
theorem dX10_wordOf_67 : decode cX10_wordOf 67 = .ok (.invokestatic 76, 3) := by decide +kernel
theorem dX10_wordOf_70 : decode cX10_wordOf 70 = .ok (.if_icmp .ne 5, 3) := by decide +kernel
theorem dX10_wordOf_73 : decode cX10_wordOf 73 = .ok (.iconst 4, 1) := by decide +kernel
theorem dX10_wordOf_74 : decode cX10_wordOf 74 = .ok (.ireturn, 1) := by decide +kernel
theorem dX10_wordOf_75 : decode cX10_wordOf 75 = .ok (.iload_n 0, 1) := by decide +kernel
theorem dX10_wordOf_76 : decode cX10_wordOf 76 = .ok (.iconst 0, 1) := by decide +kernel
theorem dX10_wordOf_77 : decode cX10_wordOf 77 = .ok (.bipush 20, 2) := by decide +kernel
theorem dX10_wordOf_79 : decode cX10_wordOf 79 = .ok (.bipush 15, 2) := by decide +kernel
theorem dX10_wordOf_81 : decode cX10_wordOf 81 = .ok (.bipush 21, 2) := by decide +kernel
theorem dX10_wordOf_83 : decode cX10_wordOf 83 = .ok (.iconst 3, 1) := by decide +kernel
theorem dX10_wordOf_84 : decode cX10_wordOf 84 = .ok (.bipush 8, 2) := by decide +kernel
theorem dX10_wordOf_86 : decode cX10_wordOf 86 = .ok (.invokestatic 76, 3) := by decide +kernel
theorem dX10_wordOf_89 : decode cX10_wordOf 89 = .ok (.if_icmp .ne 5, 3) := by decide +kernel
theorem dX10_wordOf_92 : decode cX10_wordOf 92 = .ok (.iconst 5, 1) := by decide +kernel
theorem dX10_wordOf_93 : decode cX10_wordOf 93 = .ok (.ireturn, 1) := by decide +kernel
theorem dX10_wordOf_94 : decode cX10_wordOf 94 = .ok (.iload_n 0, 1) := by decide +kernel
theorem dX10_wordOf_95 : decode cX10_wordOf 95 = .ok (.iconst 5, 1) := by decide +kernel
theorem dX10_wordOf_96 : decode cX10_wordOf 96 = .ok (.bipush 25, 2) := by decide +kernel
theorem dX10_wordOf_98 : decode cX10_wordOf 98 = .ok (.iconst 5, 1) := by decide +kernel
theorem dX10_wordOf_99 : decode cX10_wordOf 99 = .ok (.invokestatic 71, 3) := by decide +kernel
theorem dX10_wordOf_102 : decode cX10_wordOf 102 = .ok (.if_icmp .ne 6, 3) := by decide +kernel
theorem dX10_wordOf_105 : decode cX10_wordOf 105 = .ok (.bipush 6, 2) := by decide +kernel
theorem dX10_wordOf_107 : decode cX10_wordOf 107 = .ok (.ireturn, 1) := by decide +kernel
theorem dX10_wordOf_108 : decode cX10_wordOf 108 = .ok (.iload_n 0, 1) := by decide +kernel
theorem dX10_wordOf_109 : decode cX10_wordOf 109 = .ok (.bipush 20, 2) := by decide +kernel
theorem dX10_wordOf_111 : decode cX10_wordOf 111 = .ok (.bipush 23, 2) := by decide +kernel
theorem dX10_wordOf_113 : decode cX10_wordOf 113 = .ok (.bipush 15, 2) := by decide +kernel
theorem dX10_wordOf_115 : decode cX10_wordOf 115 = .ok (.invokestatic 71, 3) := by decide +kernel
theorem dX10_wordOf_118 : decode cX10_wordOf 118 = .ok (.if_icmp .ne 6, 3) := by decide +kernel
theorem dX10_wordOf_121 : decode cX10_wordOf 121 = .ok (.bipush 7, 2) := by decide +kernel
theorem dX10_wordOf_123 : decode cX10_wordOf 123 = .ok (.ireturn, 1) := by decide +kernel
theorem dX10_wordOf_124 : decode cX10_wordOf 124 = .ok (.iload_n 0, 1) := by decide +kernel
theorem dX10_wordOf_125 : decode cX10_wordOf 125 = .ok (.iconst 3, 1) := by decide +kernel
theorem dX10_wordOf_126 : decode cX10_wordOf 126 = .ok (.bipush 15, 2) := by decide +kernel
theorem dX10_wordOf_128 : decode cX10_wordOf 128 = .ok (.bipush 12, 2) := by decide +kernel
theorem dX10_wordOf_130 : decode cX10_wordOf 130 = .ok (.bipush 15, 2) := by decide +kernel
theorem dX10_wordOf_132 : decode cX10_wordOf 132 = .ok (.bipush 21, 2) := by decide +kernel
theorem dX10_wordOf_134 : decode cX10_wordOf 134 = .ok (.bipush 18, 2) := by decide +kernel
theorem dX10_wordOf_136 : decode cX10_wordOf 136 = .ok (.invokestatic 76, 3) := by decide +kernel
theorem dX10_wordOf_139 : decode cX10_wordOf 139 = .ok (.if_icmp .ne 6, 3) := by decide +kernel
theorem dX10_wordOf_142 : decode cX10_wordOf 142 = .ok (.bipush 8, 2) := by decide +kernel
theorem dX10_wordOf_144 : decode cX10_wordOf 144 = .ok (.ireturn, 1) := by decide +kernel
theorem dX10_wordOf_145 : decode cX10_wordOf 145 = .ok (.iload_n 0, 1) := by decide +kernel
theorem dX10_wordOf_146 : decode cX10_wordOf 146 = .ok (.iconst 0, 1) := by decide +kernel
theorem dX10_wordOf_147 : decode cX10_wordOf 147 = .ok (.iconst 0, 1) := by decide +kernel
theorem dX10_wordOf_148 : decode cX10_wordOf 148 = .ok (.bipush 13, 2) := by decide +kernel
theorem dX10_wordOf_150 : decode cX10_wordOf 150 = .ok (.bipush 21, 2) := by decide +kernel
theorem dX10_wordOf_152 : decode cX10_wordOf 152 = .ok (.bipush 19, 2) := by decide +kernel
theorem dX10_wordOf_154 : decode cX10_wordOf 154 = .ok (.bipush 20, 2) := by decide +kernel
theorem dX10_wordOf_156 : decode cX10_wordOf 156 = .ok (.invokestatic 76, 3) := by decide +kernel
theorem dX10_wordOf_159 : decode cX10_wordOf 159 = .ok (.if_icmp .ne 6, 3) := by decide +kernel
theorem dX10_wordOf_162 : decode cX10_wordOf 162 = .ok (.bipush 9, 2) := by decide +kernel
theorem dX10_wordOf_164 : decode cX10_wordOf 164 = .ok (.ireturn, 1) := by decide +kernel
theorem dX10_wordOf_165 : decode cX10_wordOf 165 = .ok (.iload_n 0, 1) := by decide +kernel
theorem dX10_wordOf_166 : decode cX10_wordOf 166 = .ok (.bipush 52, 2) := by decide +kernel
theorem dX10_wordOf_168 : decode cX10_wordOf 168 = .ok (.if_icmp .ne 6, 3) := by decide +kernel
theorem dX10_wordOf_171 : decode cX10_wordOf 171 = .ok (.bipush 10, 2) := by decide +kernel
theorem dX10_wordOf_173 : decode cX10_wordOf 173 = .ok (.ireturn, 1) := by decide +kernel
theorem dX10_wordOf_174 : decode cX10_wordOf 174 = .ok (.iload_n 0, 1) := by decide +kernel
theorem dX10_wordOf_175 : decode cX10_wordOf 175 = .ok (.bipush 15, 2) := by decide +kernel
theorem dX10_wordOf_177 : decode cX10_wordOf 177 = .ok (.bipush 23, 2) := by decide +kernel
theorem dX10_wordOf_179 : decode cX10_wordOf 179 = .ok (.bipush 14, 2) := by decide +kernel
theorem dX10_wordOf_181 : decode cX10_wordOf 181 = .ok (.invokestatic 71, 3) := by decide +kernel
theorem dX10_wordOf_184 : decode cX10_wordOf 184 = .ok (.if_icmp .ne 6, 3) := by decide +kernel
theorem dX10_wordOf_187 : decode cX10_wordOf 187 = .ok (.bipush 11, 2) := by decide +kernel
theorem dX10_wordOf_189 : decode cX10_wordOf 189 = .ok (.ireturn, 1) := by decide +kernel
theorem dX10_wordOf_190 : decode cX10_wordOf 190 = .ok (.iload_n 0, 1) := by decide +kernel
theorem dX10_wordOf_191 : decode cX10_wordOf 191 = .ok (.iconst 0, 1) := by decide +kernel
theorem dX10_wordOf_192 : decode cX10_wordOf 192 = .ok (.iconst 0, 1) := by decide +kernel
theorem dX10_wordOf_193 : decode cX10_wordOf 193 = .ok (.bipush 19, 2) := by decide +kernel
theorem dX10_wordOf_195 : decode cX10_wordOf 195 = .ok (.iconst 5, 1) := by decide +kernel
theorem dX10_wordOf_196 : decode cX10_wordOf 196 = .ok (.bipush 12, 2) := by decide +kernel
theorem dX10_wordOf_198 : decode cX10_wordOf 198 = .ok (.bipush 12, 2) := by decide +kernel
theorem dX10_wordOf_200 : decode cX10_wordOf 200 = .ok (.invokestatic 76, 3) := by decide +kernel
theorem dX10_wordOf_203 : decode cX10_wordOf 203 = .ok (.if_icmp .ne 6, 3) := by decide +kernel
theorem dX10_wordOf_206 : decode cX10_wordOf 206 = .ok (.bipush 12, 2) := by decide +kernel
theorem dX10_wordOf_208 : decode cX10_wordOf 208 = .ok (.ireturn, 1) := by decide +kernel
theorem dX10_wordOf_209 : decode cX10_wordOf 209 = .ok (.iload_n 0, 1) := by decide +kernel
theorem dX10_wordOf_210 : decode cX10_wordOf 210 = .ok (.iconst 0, 1) := by decide +kernel
theorem dX10_wordOf_211 : decode cX10_wordOf 211 = .ok (.iconst 0, 1) := by decide +kernel
theorem dX10_wordOf_212 : decode cX10_wordOf 212 = .ok (.bipush 16, 2) := by decide +kernel
theorem dX10_wordOf_214 : decode cX10_wordOf 214 = .ok (.iconst 1, 1) := by decide +kernel
theorem dX10_wordOf_215 : decode cX10_wordOf 215 = .ok (.bipush 23, 2) := by decide +kernel
theorem dX10_wordOf_217 : decode cX10_wordOf 217 = .ok (.bipush 14, 2) := by decide +kernel
theorem dX10_wordOf_219 : decode cX10_wordOf 219 = .ok (.invokestatic 76, 3) := by decide +kernel
theorem dX10_wordOf_222 : decode cX10_wordOf 222 = .ok (.if_icmp .ne 6, 3) := by decide +kernel
theorem dX10_wordOf_225 : decode cX10_wordOf 225 = .ok (.bipush 13, 2) := by decide +kernel
theorem dX10_wordOf_227 : decode cX10_wordOf 227 = .ok (.ireturn, 1) := by decide +kernel
theorem dX10_wordOf_228 : decode cX10_wordOf 228 = .ok (.iload_n 0, 1) := by decide +kernel
theorem dX10_wordOf_229 : decode cX10_wordOf 229 = .ok (.iconst 0, 1) := by decide +kernel
theorem dX10_wordOf_230 : decode cX10_wordOf 230 = .ok (.iconst 0, 1) := by decide +kernel
theorem dX10_wordOf_231 : decode cX10_wordOf 231 = .ok (.iconst 2, 1) := by decide +kernel
theorem dX10_wordOf_232 : decode cX10_wordOf 232 = .ok (.iconst 1, 1) := by decide +kernel
theorem dX10_wordOf_233 : decode cX10_wordOf 233 = .ok (.iconst 3, 1) := by decide +kernel
theorem dX10_wordOf_234 : decode cX10_wordOf 234 = .ok (.bipush 11, 2) := by decide +kernel
theorem dX10_wordOf_236 : decode cX10_wordOf 236 = .ok (.invokestatic 76, 3) := by decide +kernel
theorem dX10_wordOf_239 : decode cX10_wordOf 239 = .ok (.if_icmp .ne 6, 3) := by decide +kernel
theorem dX10_wordOf_242 : decode cX10_wordOf 242 = .ok (.bipush 14, 2) := by decide +kernel
theorem dX10_wordOf_244 : decode cX10_wordOf 244 = .ok (.ireturn, 1) := by decide +kernel
theorem dX10_wordOf_245 : decode cX10_wordOf 245 = .ok (.iload_n 0, 1) := by decide +kernel
theorem dX10_wordOf_246 : decode cX10_wordOf 246 = .ok (.iconst 0, 1) := by decide +kernel
theorem dX10_wordOf_247 : decode cX10_wordOf 247 = .ok (.iconst 0, 1) := by decide +kernel
theorem dX10_wordOf_248 : decode cX10_wordOf 248 = .ok (.bipush 23, 2) := by decide +kernel
theorem dX10_wordOf_250 : decode cX10_wordOf 250 = .ok (.bipush 9, 2) := by decide +kernel
theorem dX10_wordOf_252 : decode cX10_wordOf 252 = .ok (.bipush 12, 2) := by decide +kernel
theorem dX10_wordOf_254 : decode cX10_wordOf 254 = .ok (.bipush 12, 2) := by decide +kernel
theorem dX10_wordOf_256 : decode cX10_wordOf 256 = .ok (.invokestatic 76, 3) := by decide +kernel
theorem dX10_wordOf_259 : decode cX10_wordOf 259 = .ok (.if_icmp .ne 6, 3) := by decide +kernel
theorem dX10_wordOf_262 : decode cX10_wordOf 262 = .ok (.bipush 15, 2) := by decide +kernel
theorem dX10_wordOf_264 : decode cX10_wordOf 264 = .ok (.ireturn, 1) := by decide +kernel
theorem dX10_wordOf_265 : decode cX10_wordOf 265 = .ok (.iload_n 0, 1) := by decide +kernel
theorem dX10_wordOf_266 : decode cX10_wordOf 266 = .ok (.iconst 0, 1) := by decide +kernel
theorem dX10_wordOf_267 : decode cX10_wordOf 267 = .ok (.iconst 0, 1) := by decide +kernel
theorem dX10_wordOf_268 : decode cX10_wordOf 268 = .ok (.iconst 4, 1) := by decide +kernel
theorem dX10_wordOf_269 : decode cX10_wordOf 269 = .ok (.bipush 9, 2) := by decide +kernel
theorem dX10_wordOf_271 : decode cX10_wordOf 271 = .ok (.iconst 5, 1) := by decide +kernel
theorem dX10_wordOf_272 : decode cX10_wordOf 272 = .ok (.bipush 19, 2) := by decide +kernel
theorem dX10_wordOf_274 : decode cX10_wordOf 274 = .ok (.invokestatic 76, 3) := by decide +kernel
theorem dX10_wordOf_277 : decode cX10_wordOf 277 = .ok (.if_icmp .ne 6, 3) := by decide +kernel
theorem dX10_wordOf_280 : decode cX10_wordOf 280 = .ok (.bipush 16, 2) := by decide +kernel
theorem dX10_wordOf_282 : decode cX10_wordOf 282 = .ok (.ireturn, 1) := by decide +kernel
theorem dX10_wordOf_283 : decode cX10_wordOf 283 = .ok (.iload_n 0, 1) := by decide +kernel
theorem dX10_wordOf_284 : decode cX10_wordOf 284 = .ok (.iconst 0, 1) := by decide +kernel
theorem dX10_wordOf_285 : decode cX10_wordOf 285 = .ok (.iconst 5, 1) := by decide +kernel
theorem dX10_wordOf_286 : decode cX10_wordOf 286 = .ok (.bipush 18, 2) := by decide +kernel
theorem dX10_wordOf_288 : decode cX10_wordOf 288 = .ok (.bipush 18, 2) := by decide +kernel
theorem dX10_wordOf_290 : decode cX10_wordOf 290 = .ok (.bipush 15, 2) := by decide +kernel
theorem dX10_wordOf_292 : decode cX10_wordOf 292 = .ok (.bipush 18, 2) := by decide +kernel
theorem dX10_wordOf_294 : decode cX10_wordOf 294 = .ok (.invokestatic 76, 3) := by decide +kernel
theorem dX10_wordOf_297 : decode cX10_wordOf 297 = .ok (.if_icmp .ne 8, 3) := by decide +kernel
theorem dX10_wordOf_300 : decode cX10_wordOf 300 = .ok (.bipush 17, 2) := by decide +kernel
theorem dX10_wordOf_302 : decode cX10_wordOf 302 = .ok (.goto 5, 3) := by decide +kernel
theorem dX10_wordOf_305 : decode cX10_wordOf 305 = .ok (.bipush 99, 2) := by decide +kernel
theorem dX10_wordOf_307 : decode cX10_wordOf 307 = .ok (.ireturn, 1) := by decide +kernel
def zX10_wordOf (Qr : Option PV → Mem → Prop) : XZ := (RX10, 2, 47, 1, some FieldType.int, Qr)
noncomputable def fX10_wordOf (x0 : Int) : Int :=
  if x0 ≠ (fX10_six 0 19 12 15 20 19) then
    if x0 ≠ (fX10_six 0 0 16 1 3 5) then
      if x0 ≠ (fX10_six 0 12 9 7 8 20) then
        if x0 ≠ (fX10_six 0 19 20 1 18 20) then
          if x0 ≠ (fX10_six 0 20 15 21 3 8) then
            if x0 ≠ (fX10_three 5 25 5) then
              if x0 ≠ (fX10_three 20 23 15) then
                if x0 ≠ (fX10_six 3 15 12 15 21 18) then
                  if x0 ≠ (fX10_six 0 0 13 21 19 20) then
                    if x0 ≠ 52 then
                      if x0 ≠ (fX10_three 15 23 14) then
                        if x0 ≠ (fX10_six 0 0 19 5 12 12) then
                          if x0 ≠ (fX10_six 0 0 16 1 23 14) then
                            if x0 ≠ (fX10_six 0 0 2 1 3 11) then
                              if x0 ≠ (fX10_six 0 0 23 9 12 12) then
                                if x0 ≠ (fX10_six 0 0 4 9 5 19) then
                                  if x0 ≠ (fX10_six 0 5 18 18 15 18) then
                                    99
                                  else
                                    17
                                else
                                  16
                              else
                                15
                            else
                              14
                          else
                            13
                        else
                          12
                      else
                        11
                    else
                      10
                  else
                    9
                else
                  8
              else
                7
            else
              6
          else
            5
        else
          4
      else
        3
    else
      2
  else
    1
theorem fX10_wordOf_ok {Qr : Option PV → Mem → Prop} : ∀ (x0 : Int) (F : Mem) (res : Int), fX10_wordOf x0 = res → Qr (some (vI res)) F → PR cX10_wordOf (zX10_wordOf Qr) 0 [(0, vI x0)] [] F := by
  intro x0 F res  h hq
  refine s_iload_n (j := 0) dX10_wordOf_0 rfl rfl ?_
  refine s_iconst dX10_wordOf_1 (cin rfl) ?_
  refine s_bipush dX10_wordOf_2 rfl (cin rfl) ?_
  refine s_bipush dX10_wordOf_4 rfl (cin rfl) ?_
  refine s_bipush dX10_wordOf_6 rfl (cin rfl) ?_
  refine s_bipush dX10_wordOf_8 rfl (cin rfl) ?_
  refine s_bipush dX10_wordOf_10 rfl (cin rfl) ?_
  refine s_callS (As := [vI 0, vI 19, vI 12, vI 15, vI 20, vI 19]) (rest := [vI x0]) (r := (some (vI (fX10_six 0 19 12 15 20 19)))) (F' := F) dX10_wordOf_12 (clX10_76 (Nat.le_of_ble_eq_true rfl) (Nat.le_of_ble_eq_true rfl)) rfl ⟨_, _, _, _, _, _, _, rfl, rfl, rfl, rfl⟩ rfl (Nat.le_of_ble_eq_true rfl) ?_
  refine s_icmp_ne (tgt := 20) dX10_wordOf_15 rfl (fun hc1 => ?_) (fun hc1 => ?_)
  · have h := ifp hc1 h
    refine s_iload_n (j := 0) dX10_wordOf_20 rfl rfl ?_
    refine s_iconst dX10_wordOf_21 (cin rfl) ?_
    refine s_iconst dX10_wordOf_22 (cin rfl) ?_
    refine s_bipush dX10_wordOf_23 rfl (cin rfl) ?_
    refine s_iconst dX10_wordOf_25 (cin rfl) ?_
    refine s_iconst dX10_wordOf_26 (cin rfl) ?_
    refine s_iconst dX10_wordOf_27 (cin rfl) ?_
    refine s_callS (As := [vI 0, vI 0, vI 16, vI 1, vI 3, vI 5]) (rest := [vI x0]) (r := (some (vI (fX10_six 0 0 16 1 3 5)))) (F' := F) dX10_wordOf_28 (clX10_76 (Nat.le_of_ble_eq_true rfl) (Nat.le_of_ble_eq_true rfl)) rfl ⟨_, _, _, _, _, _, _, rfl, rfl, rfl, rfl⟩ rfl (Nat.le_of_ble_eq_true rfl) ?_
    refine s_icmp_ne (tgt := 36) dX10_wordOf_31 rfl (fun hc2 => ?_) (fun hc2 => ?_)
    · have h := ifp hc2 h
      refine s_iload_n (j := 0) dX10_wordOf_36 rfl rfl ?_
      refine s_iconst dX10_wordOf_37 (cin rfl) ?_
      refine s_bipush dX10_wordOf_38 rfl (cin rfl) ?_
      refine s_bipush dX10_wordOf_40 rfl (cin rfl) ?_
      refine s_bipush dX10_wordOf_42 rfl (cin rfl) ?_
      refine s_bipush dX10_wordOf_44 rfl (cin rfl) ?_
      refine s_bipush dX10_wordOf_46 rfl (cin rfl) ?_
      refine s_callS (As := [vI 0, vI 12, vI 9, vI 7, vI 8, vI 20]) (rest := [vI x0]) (r := (some (vI (fX10_six 0 12 9 7 8 20)))) (F' := F) dX10_wordOf_48 (clX10_76 (Nat.le_of_ble_eq_true rfl) (Nat.le_of_ble_eq_true rfl)) rfl ⟨_, _, _, _, _, _, _, rfl, rfl, rfl, rfl⟩ rfl (Nat.le_of_ble_eq_true rfl) ?_
      refine s_icmp_ne (tgt := 56) dX10_wordOf_51 rfl (fun hc3 => ?_) (fun hc3 => ?_)
      · have h := ifp hc3 h
        refine s_iload_n (j := 0) dX10_wordOf_56 rfl rfl ?_
        refine s_iconst dX10_wordOf_57 (cin rfl) ?_
        refine s_bipush dX10_wordOf_58 rfl (cin rfl) ?_
        refine s_bipush dX10_wordOf_60 rfl (cin rfl) ?_
        refine s_iconst dX10_wordOf_62 (cin rfl) ?_
        refine s_bipush dX10_wordOf_63 rfl (cin rfl) ?_
        refine s_bipush dX10_wordOf_65 rfl (cin rfl) ?_
        refine s_callS (As := [vI 0, vI 19, vI 20, vI 1, vI 18, vI 20]) (rest := [vI x0]) (r := (some (vI (fX10_six 0 19 20 1 18 20)))) (F' := F) dX10_wordOf_67 (clX10_76 (Nat.le_of_ble_eq_true rfl) (Nat.le_of_ble_eq_true rfl)) rfl ⟨_, _, _, _, _, _, _, rfl, rfl, rfl, rfl⟩ rfl (Nat.le_of_ble_eq_true rfl) ?_
        refine s_icmp_ne (tgt := 75) dX10_wordOf_70 rfl (fun hc4 => ?_) (fun hc4 => ?_)
        · have h := ifp hc4 h
          refine s_iload_n (j := 0) dX10_wordOf_75 rfl rfl ?_
          refine s_iconst dX10_wordOf_76 (cin rfl) ?_
          refine s_bipush dX10_wordOf_77 rfl (cin rfl) ?_
          refine s_bipush dX10_wordOf_79 rfl (cin rfl) ?_
          refine s_bipush dX10_wordOf_81 rfl (cin rfl) ?_
          refine s_iconst dX10_wordOf_83 (cin rfl) ?_
          refine s_bipush dX10_wordOf_84 rfl (cin rfl) ?_
          refine s_callS (As := [vI 0, vI 20, vI 15, vI 21, vI 3, vI 8]) (rest := [vI x0]) (r := (some (vI (fX10_six 0 20 15 21 3 8)))) (F' := F) dX10_wordOf_86 (clX10_76 (Nat.le_of_ble_eq_true rfl) (Nat.le_of_ble_eq_true rfl)) rfl ⟨_, _, _, _, _, _, _, rfl, rfl, rfl, rfl⟩ rfl (Nat.le_of_ble_eq_true rfl) ?_
          refine s_icmp_ne (tgt := 94) dX10_wordOf_89 rfl (fun hc5 => ?_) (fun hc5 => ?_)
          · have h := ifp hc5 h
            refine s_iload_n (j := 0) dX10_wordOf_94 rfl rfl ?_
            refine s_iconst dX10_wordOf_95 (cin rfl) ?_
            refine s_bipush dX10_wordOf_96 rfl (cin rfl) ?_
            refine s_iconst dX10_wordOf_98 (cin rfl) ?_
            refine s_callS (As := [vI 5, vI 25, vI 5]) (rest := [vI x0]) (r := (some (vI (fX10_three 5 25 5)))) (F' := F) dX10_wordOf_99 (clX10_71 (Nat.le_of_ble_eq_true rfl) (Nat.le_of_ble_eq_true rfl)) rfl ⟨_, _, _, _, rfl, rfl, rfl, rfl⟩ rfl (Nat.le_of_ble_eq_true rfl) ?_
            refine s_icmp_ne (tgt := 108) dX10_wordOf_102 rfl (fun hc6 => ?_) (fun hc6 => ?_)
            · have h := ifp hc6 h
              refine s_iload_n (j := 0) dX10_wordOf_108 rfl rfl ?_
              refine s_bipush dX10_wordOf_109 rfl (cin rfl) ?_
              refine s_bipush dX10_wordOf_111 rfl (cin rfl) ?_
              refine s_bipush dX10_wordOf_113 rfl (cin rfl) ?_
              refine s_callS (As := [vI 20, vI 23, vI 15]) (rest := [vI x0]) (r := (some (vI (fX10_three 20 23 15)))) (F' := F) dX10_wordOf_115 (clX10_71 (Nat.le_of_ble_eq_true rfl) (Nat.le_of_ble_eq_true rfl)) rfl ⟨_, _, _, _, rfl, rfl, rfl, rfl⟩ rfl (Nat.le_of_ble_eq_true rfl) ?_
              refine s_icmp_ne (tgt := 124) dX10_wordOf_118 rfl (fun hc7 => ?_) (fun hc7 => ?_)
              · have h := ifp hc7 h
                refine s_iload_n (j := 0) dX10_wordOf_124 rfl rfl ?_
                refine s_iconst dX10_wordOf_125 (cin rfl) ?_
                refine s_bipush dX10_wordOf_126 rfl (cin rfl) ?_
                refine s_bipush dX10_wordOf_128 rfl (cin rfl) ?_
                refine s_bipush dX10_wordOf_130 rfl (cin rfl) ?_
                refine s_bipush dX10_wordOf_132 rfl (cin rfl) ?_
                refine s_bipush dX10_wordOf_134 rfl (cin rfl) ?_
                refine s_callS (As := [vI 3, vI 15, vI 12, vI 15, vI 21, vI 18]) (rest := [vI x0]) (r := (some (vI (fX10_six 3 15 12 15 21 18)))) (F' := F) dX10_wordOf_136 (clX10_76 (Nat.le_of_ble_eq_true rfl) (Nat.le_of_ble_eq_true rfl)) rfl ⟨_, _, _, _, _, _, _, rfl, rfl, rfl, rfl⟩ rfl (Nat.le_of_ble_eq_true rfl) ?_
                refine s_icmp_ne (tgt := 145) dX10_wordOf_139 rfl (fun hc8 => ?_) (fun hc8 => ?_)
                · have h := ifp hc8 h
                  refine s_iload_n (j := 0) dX10_wordOf_145 rfl rfl ?_
                  refine s_iconst dX10_wordOf_146 (cin rfl) ?_
                  refine s_iconst dX10_wordOf_147 (cin rfl) ?_
                  refine s_bipush dX10_wordOf_148 rfl (cin rfl) ?_
                  refine s_bipush dX10_wordOf_150 rfl (cin rfl) ?_
                  refine s_bipush dX10_wordOf_152 rfl (cin rfl) ?_
                  refine s_bipush dX10_wordOf_154 rfl (cin rfl) ?_
                  refine s_callS (As := [vI 0, vI 0, vI 13, vI 21, vI 19, vI 20]) (rest := [vI x0]) (r := (some (vI (fX10_six 0 0 13 21 19 20)))) (F' := F) dX10_wordOf_156 (clX10_76 (Nat.le_of_ble_eq_true rfl) (Nat.le_of_ble_eq_true rfl)) rfl ⟨_, _, _, _, _, _, _, rfl, rfl, rfl, rfl⟩ rfl (Nat.le_of_ble_eq_true rfl) ?_
                  refine s_icmp_ne (tgt := 165) dX10_wordOf_159 rfl (fun hc9 => ?_) (fun hc9 => ?_)
                  · have h := ifp hc9 h
                    refine s_iload_n (j := 0) dX10_wordOf_165 rfl rfl ?_
                    refine s_bipush dX10_wordOf_166 rfl (cin rfl) ?_
                    refine s_icmp_ne (tgt := 174) dX10_wordOf_168 rfl (fun hc10 => ?_) (fun hc10 => ?_)
                    · have h := ifp hc10 h
                      refine s_iload_n (j := 0) dX10_wordOf_174 rfl rfl ?_
                      refine s_bipush dX10_wordOf_175 rfl (cin rfl) ?_
                      refine s_bipush dX10_wordOf_177 rfl (cin rfl) ?_
                      refine s_bipush dX10_wordOf_179 rfl (cin rfl) ?_
                      refine s_callS (As := [vI 15, vI 23, vI 14]) (rest := [vI x0]) (r := (some (vI (fX10_three 15 23 14)))) (F' := F) dX10_wordOf_181 (clX10_71 (Nat.le_of_ble_eq_true rfl) (Nat.le_of_ble_eq_true rfl)) rfl ⟨_, _, _, _, rfl, rfl, rfl, rfl⟩ rfl (Nat.le_of_ble_eq_true rfl) ?_
                      refine s_icmp_ne (tgt := 190) dX10_wordOf_184 rfl (fun hc11 => ?_) (fun hc11 => ?_)
                      · have h := ifp hc11 h
                        refine s_iload_n (j := 0) dX10_wordOf_190 rfl rfl ?_
                        refine s_iconst dX10_wordOf_191 (cin rfl) ?_
                        refine s_iconst dX10_wordOf_192 (cin rfl) ?_
                        refine s_bipush dX10_wordOf_193 rfl (cin rfl) ?_
                        refine s_iconst dX10_wordOf_195 (cin rfl) ?_
                        refine s_bipush dX10_wordOf_196 rfl (cin rfl) ?_
                        refine s_bipush dX10_wordOf_198 rfl (cin rfl) ?_
                        refine s_callS (As := [vI 0, vI 0, vI 19, vI 5, vI 12, vI 12]) (rest := [vI x0]) (r := (some (vI (fX10_six 0 0 19 5 12 12)))) (F' := F) dX10_wordOf_200 (clX10_76 (Nat.le_of_ble_eq_true rfl) (Nat.le_of_ble_eq_true rfl)) rfl ⟨_, _, _, _, _, _, _, rfl, rfl, rfl, rfl⟩ rfl (Nat.le_of_ble_eq_true rfl) ?_
                        refine s_icmp_ne (tgt := 209) dX10_wordOf_203 rfl (fun hc12 => ?_) (fun hc12 => ?_)
                        · have h := ifp hc12 h
                          refine s_iload_n (j := 0) dX10_wordOf_209 rfl rfl ?_
                          refine s_iconst dX10_wordOf_210 (cin rfl) ?_
                          refine s_iconst dX10_wordOf_211 (cin rfl) ?_
                          refine s_bipush dX10_wordOf_212 rfl (cin rfl) ?_
                          refine s_iconst dX10_wordOf_214 (cin rfl) ?_
                          refine s_bipush dX10_wordOf_215 rfl (cin rfl) ?_
                          refine s_bipush dX10_wordOf_217 rfl (cin rfl) ?_
                          refine s_callS (As := [vI 0, vI 0, vI 16, vI 1, vI 23, vI 14]) (rest := [vI x0]) (r := (some (vI (fX10_six 0 0 16 1 23 14)))) (F' := F) dX10_wordOf_219 (clX10_76 (Nat.le_of_ble_eq_true rfl) (Nat.le_of_ble_eq_true rfl)) rfl ⟨_, _, _, _, _, _, _, rfl, rfl, rfl, rfl⟩ rfl (Nat.le_of_ble_eq_true rfl) ?_
                          refine s_icmp_ne (tgt := 228) dX10_wordOf_222 rfl (fun hc13 => ?_) (fun hc13 => ?_)
                          · have h := ifp hc13 h
                            refine s_iload_n (j := 0) dX10_wordOf_228 rfl rfl ?_
                            refine s_iconst dX10_wordOf_229 (cin rfl) ?_
                            refine s_iconst dX10_wordOf_230 (cin rfl) ?_
                            refine s_iconst dX10_wordOf_231 (cin rfl) ?_
                            refine s_iconst dX10_wordOf_232 (cin rfl) ?_
                            refine s_iconst dX10_wordOf_233 (cin rfl) ?_
                            refine s_bipush dX10_wordOf_234 rfl (cin rfl) ?_
                            refine s_callS (As := [vI 0, vI 0, vI 2, vI 1, vI 3, vI 11]) (rest := [vI x0]) (r := (some (vI (fX10_six 0 0 2 1 3 11)))) (F' := F) dX10_wordOf_236 (clX10_76 (Nat.le_of_ble_eq_true rfl) (Nat.le_of_ble_eq_true rfl)) rfl ⟨_, _, _, _, _, _, _, rfl, rfl, rfl, rfl⟩ rfl (Nat.le_of_ble_eq_true rfl) ?_
                            refine s_icmp_ne (tgt := 245) dX10_wordOf_239 rfl (fun hc14 => ?_) (fun hc14 => ?_)
                            · have h := ifp hc14 h
                              refine s_iload_n (j := 0) dX10_wordOf_245 rfl rfl ?_
                              refine s_iconst dX10_wordOf_246 (cin rfl) ?_
                              refine s_iconst dX10_wordOf_247 (cin rfl) ?_
                              refine s_bipush dX10_wordOf_248 rfl (cin rfl) ?_
                              refine s_bipush dX10_wordOf_250 rfl (cin rfl) ?_
                              refine s_bipush dX10_wordOf_252 rfl (cin rfl) ?_
                              refine s_bipush dX10_wordOf_254 rfl (cin rfl) ?_
                              refine s_callS (As := [vI 0, vI 0, vI 23, vI 9, vI 12, vI 12]) (rest := [vI x0]) (r := (some (vI (fX10_six 0 0 23 9 12 12)))) (F' := F) dX10_wordOf_256 (clX10_76 (Nat.le_of_ble_eq_true rfl) (Nat.le_of_ble_eq_true rfl)) rfl ⟨_, _, _, _, _, _, _, rfl, rfl, rfl, rfl⟩ rfl (Nat.le_of_ble_eq_true rfl) ?_
                              refine s_icmp_ne (tgt := 265) dX10_wordOf_259 rfl (fun hc15 => ?_) (fun hc15 => ?_)
                              · have h := ifp hc15 h
                                refine s_iload_n (j := 0) dX10_wordOf_265 rfl rfl ?_
                                refine s_iconst dX10_wordOf_266 (cin rfl) ?_
                                refine s_iconst dX10_wordOf_267 (cin rfl) ?_
                                refine s_iconst dX10_wordOf_268 (cin rfl) ?_
                                refine s_bipush dX10_wordOf_269 rfl (cin rfl) ?_
                                refine s_iconst dX10_wordOf_271 (cin rfl) ?_
                                refine s_bipush dX10_wordOf_272 rfl (cin rfl) ?_
                                refine s_callS (As := [vI 0, vI 0, vI 4, vI 9, vI 5, vI 19]) (rest := [vI x0]) (r := (some (vI (fX10_six 0 0 4 9 5 19)))) (F' := F) dX10_wordOf_274 (clX10_76 (Nat.le_of_ble_eq_true rfl) (Nat.le_of_ble_eq_true rfl)) rfl ⟨_, _, _, _, _, _, _, rfl, rfl, rfl, rfl⟩ rfl (Nat.le_of_ble_eq_true rfl) ?_
                                refine s_icmp_ne (tgt := 283) dX10_wordOf_277 rfl (fun hc16 => ?_) (fun hc16 => ?_)
                                · have h := ifp hc16 h
                                  refine s_iload_n (j := 0) dX10_wordOf_283 rfl rfl ?_
                                  refine s_iconst dX10_wordOf_284 (cin rfl) ?_
                                  refine s_iconst dX10_wordOf_285 (cin rfl) ?_
                                  refine s_bipush dX10_wordOf_286 rfl (cin rfl) ?_
                                  refine s_bipush dX10_wordOf_288 rfl (cin rfl) ?_
                                  refine s_bipush dX10_wordOf_290 rfl (cin rfl) ?_
                                  refine s_bipush dX10_wordOf_292 rfl (cin rfl) ?_
                                  refine s_callS (As := [vI 0, vI 5, vI 18, vI 18, vI 15, vI 18]) (rest := [vI x0]) (r := (some (vI (fX10_six 0 5 18 18 15 18)))) (F' := F) dX10_wordOf_294 (clX10_76 (Nat.le_of_ble_eq_true rfl) (Nat.le_of_ble_eq_true rfl)) rfl ⟨_, _, _, _, _, _, _, rfl, rfl, rfl, rfl⟩ rfl (Nat.le_of_ble_eq_true rfl) ?_
                                  refine s_icmp_ne (tgt := 305) dX10_wordOf_297 rfl (fun hc17 => ?_) (fun hc17 => ?_)
                                  · have h := ifp hc17 h
                                    refine s_bipush dX10_wordOf_305 rfl (cin rfl) ?_
                                    subst h
                                    exact s_ireturn dX10_wordOf_307 rfl hq
                                  · have h := ifn hc17 h
                                    refine s_bipush dX10_wordOf_300 rfl (cin rfl) ?_
                                    refine s_goto (tgt := 307) dX10_wordOf_302 rfl ?_
                                    subst h
                                    exact s_ireturn dX10_wordOf_307 rfl hq
                                · have h := ifn hc16 h
                                  refine s_bipush dX10_wordOf_280 rfl (cin rfl) ?_
                                  subst h
                                  exact s_ireturn dX10_wordOf_282 rfl hq
                              · have h := ifn hc15 h
                                refine s_bipush dX10_wordOf_262 rfl (cin rfl) ?_
                                subst h
                                exact s_ireturn dX10_wordOf_264 rfl hq
                            · have h := ifn hc14 h
                              refine s_bipush dX10_wordOf_242 rfl (cin rfl) ?_
                              subst h
                              exact s_ireturn dX10_wordOf_244 rfl hq
                          · have h := ifn hc13 h
                            refine s_bipush dX10_wordOf_225 rfl (cin rfl) ?_
                            subst h
                            exact s_ireturn dX10_wordOf_227 rfl hq
                        · have h := ifn hc12 h
                          refine s_bipush dX10_wordOf_206 rfl (cin rfl) ?_
                          subst h
                          exact s_ireturn dX10_wordOf_208 rfl hq
                      · have h := ifn hc11 h
                        refine s_bipush dX10_wordOf_187 rfl (cin rfl) ?_
                        subst h
                        exact s_ireturn dX10_wordOf_189 rfl hq
                    · have h := ifn hc10 h
                      refine s_bipush dX10_wordOf_171 rfl (cin rfl) ?_
                      subst h
                      exact s_ireturn dX10_wordOf_173 rfl hq
                  · have h := ifn hc9 h
                    refine s_bipush dX10_wordOf_162 rfl (cin rfl) ?_
                    subst h
                    exact s_ireturn dX10_wordOf_164 rfl hq
                · have h := ifn hc8 h
                  refine s_bipush dX10_wordOf_142 rfl (cin rfl) ?_
                  subst h
                  exact s_ireturn dX10_wordOf_144 rfl hq
              · have h := ifn hc7 h
                refine s_bipush dX10_wordOf_121 rfl (cin rfl) ?_
                subst h
                exact s_ireturn dX10_wordOf_123 rfl hq
            · have h := ifn hc6 h
              refine s_bipush dX10_wordOf_105 rfl (cin rfl) ?_
              subst h
              exact s_ireturn dX10_wordOf_107 rfl hq
          · have h := ifn hc5 h
            refine s_iconst dX10_wordOf_92 (cin rfl) ?_
            subst h
            exact s_ireturn dX10_wordOf_93 rfl hq
        · have h := ifn hc4 h
          refine s_iconst dX10_wordOf_73 (cin rfl) ?_
          subst h
          exact s_ireturn dX10_wordOf_74 rfl hq
      · have h := ifn hc3 h
        refine s_iconst dX10_wordOf_54 (cin rfl) ?_
        subst h
        exact s_ireturn dX10_wordOf_55 rfl hq
    · have h := ifn hc2 h
      refine s_iconst dX10_wordOf_34 (cin rfl) ?_
      subst h
      exact s_ireturn dX10_wordOf_35 rfl hq
  · have h := ifn hc1 h
    refine s_iconst dX10_wordOf_18 (cin rfl) ?_
    subst h
    exact s_ireturn dX10_wordOf_19 rfl hq
def gX10_wordOf : XG := fun As F r F' => ∃ x0 : Int, ∃ res : Int, As = [vI x0] ∧ fX10_wordOf x0 = res ∧ r = some (vI res) ∧ F' = F
theorem ctX10_wordOf : xCT yX10_wordOf cX10_wordOf 1 (some FieldType.int) 2 47 gX10_wordOf := xmet (by decide +kernel) (fun As F r F' hg => by obtain ⟨x0, res, rfl, h, rfl, rfl⟩ := hg; exact Nat.le_of_ble_eq_true rfl) (fun As F r F' hg => by obtain ⟨x0, res, rfl, h, rfl, rfl⟩ := hg; exact fX10_wordOf_ok x0 _ _  h ⟨rfl, rfl⟩)
theorem mcX10_wordOf : Cond.code yX10_wordOf cX10_wordOf 1 (some FieldType.int) ∈ xw_T ∧ Cond.initialized yX10_wordOf.cls ∈ xw_T ∧ Cond.static yX10_wordOf ∈ xw_T := ⟨(xinT 1504 (by decide +kernel) (by decide +kernel)), (xinT 127 (by decide +kernel) (by decide +kernel)), (xinT 1503 (by decide +kernel) (by decide +kernel))⟩
theorem clX10_97 {fr lo : Nat} (h1 : 2 + 1 ≤ fr) (h2 : 8 + (1 + 11) + 47 ≤ lo) : xCall RX10 fr lo 1 97 0 1 gX10_wordOf := ⟨_, _, _, _, _, _, ctX10_wordOf, h1, h2, mcX10_wordOf.1, (xinT 1502 (by decide +kernel) (by decide +kernel)), mcX10_wordOf.2.1, ⟨by decide +kernel, by decide +kernel, by decide +kernel⟩, by rw [if_neg (by decide)]; exact mcX10_wordOf.2.2⟩
theorem dX10_advance_0 : decode cX10_advance 0 = .ok (.aload_n 0, 1) := by decide +kernel
theorem dX10_advance_1 : decode cX10_advance 1 = .ok (.aload_n 0, 1) := by decide +kernel
theorem dX10_advance_2 : decode cX10_advance 2 = .ok (.getfield 80, 3) := by decide +kernel
theorem dX10_advance_5 : decode cX10_advance 5 = .ok (.invokevirtual 83, 3) := by decide +kernel
theorem dX10_advance_8 : decode cX10_advance 8 = .ok (.bipush 10, 2) := by decide +kernel
theorem dX10_advance_10 : decode cX10_advance 10 = .ok (.if_icmp .eq 16, 3) := by decide +kernel
theorem dX10_advance_13 : decode cX10_advance 13 = .ok (.aload_n 0, 1) := by decide +kernel
theorem dX10_advance_14 : decode cX10_advance 14 = .ok (.aload_n 0, 1) := by decide +kernel
theorem dX10_advance_15 : decode cX10_advance 15 = .ok (.getfield 80, 3) := by decide +kernel
theorem dX10_advance_18 : decode cX10_advance 18 = .ok (.invokevirtual 83, 3) := by decide +kernel
theorem dX10_advance_21 : decode cX10_advance 21 = .ok (.bipush 32, 2) := by decide +kernel
theorem dX10_advance_23 : decode cX10_advance 23 = .ok (.if_icmp .ne 16, 3) := by decide +kernel
theorem dX10_advance_26 : decode cX10_advance 26 = .ok (.aload_n 0, 1) := by decide +kernel
theorem dX10_advance_27 : decode cX10_advance 27 = .ok (.dup, 1) := by decide +kernel
theorem dX10_advance_28 : decode cX10_advance 28 = .ok (.getfield 80, 3) := by decide +kernel
theorem dX10_advance_31 : decode cX10_advance 31 = .ok (.iconst 1, 1) := by decide +kernel
theorem dX10_advance_32 : decode cX10_advance 32 = .ok (.iadd, 1) := by decide +kernel
theorem dX10_advance_33 : decode cX10_advance 33 = .ok (.putfield 80, 3) := by decide +kernel
theorem dX10_advance_36 : decode cX10_advance 36 = .ok (.goto (-36), 3) := by decide +kernel
theorem dX10_advance_39 : decode cX10_advance 39 = .ok (.aload_n 0, 1) := by decide +kernel
theorem dX10_advance_40 : decode cX10_advance 40 = .ok (.aload_n 0, 1) := by decide +kernel
theorem dX10_advance_41 : decode cX10_advance 41 = .ok (.getfield 80, 3) := by decide +kernel
theorem dX10_advance_44 : decode cX10_advance 44 = .ok (.putfield 87, 3) := by decide +kernel
theorem dX10_advance_47 : decode cX10_advance 47 = .ok (.aload_n 0, 1) := by decide +kernel
theorem dX10_advance_48 : decode cX10_advance 48 = .ok (.aload_n 0, 1) := by decide +kernel
theorem dX10_advance_49 : decode cX10_advance 49 = .ok (.getfield 80, 3) := by decide +kernel
theorem dX10_advance_52 : decode cX10_advance 52 = .ok (.invokevirtual 83, 3) := by decide +kernel
theorem dX10_advance_55 : decode cX10_advance 55 = .ok (.istore_n 1, 1) := by decide +kernel
theorem dX10_advance_56 : decode cX10_advance 56 = .ok (.iload_n 1, 1) := by decide +kernel
theorem dX10_advance_57 : decode cX10_advance 57 = .ok (.ifCond .ge 11, 3) := by decide +kernel
theorem dX10_advance_60 : decode cX10_advance 60 = .ok (.aload_n 0, 1) := by decide +kernel
theorem dX10_advance_61 : decode cX10_advance 61 = .ok (.iconst 0, 1) := by decide +kernel
theorem dX10_advance_62 : decode cX10_advance 62 = .ok (.putfield 90, 3) := by decide +kernel
theorem dX10_advance_65 : decode cX10_advance 65 = .ok (.goto 243, 3) := by decide +kernel
theorem dX10_advance_68 : decode cX10_advance 68 = .ok (.iload_n 1, 1) := by decide +kernel
theorem dX10_advance_69 : decode cX10_advance 69 = .ok (.invokestatic 93, 3) := by decide +kernel
theorem dX10_advance_72 : decode cX10_advance 72 = .ok (.ifCond .eq 111, 3) := by decide +kernel
theorem dX10_advance_75 : decode cX10_advance 75 = .ok (.iconst 0, 1) := by decide +kernel
theorem dX10_advance_76 : decode cX10_advance 76 = .ok (.istore_n 2, 1) := by decide +kernel
theorem dX10_advance_77 : decode cX10_advance 77 = .ok (.aload_n 0, 1) := by decide +kernel
theorem dX10_advance_78 : decode cX10_advance 78 = .ok (.aload_n 0, 1) := by decide +kernel
theorem dX10_advance_79 : decode cX10_advance 79 = .ok (.getfield 80, 3) := by decide +kernel
theorem dX10_advance_82 : decode cX10_advance 82 = .ok (.invokevirtual 83, 3) := by decide +kernel
theorem dX10_advance_85 : decode cX10_advance 85 = .ok (.invokestatic 93, 3) := by decide +kernel
theorem dX10_advance_88 : decode cX10_advance 88 = .ok (.ifCond .eq 47, 3) := by decide +kernel
theorem dX10_advance_91 : decode cX10_advance 91 = .ok (.aload_n 0, 1) := by decide +kernel
theorem dX10_advance_92 : decode cX10_advance 92 = .ok (.getfield 80, 3) := by decide +kernel
theorem dX10_advance_95 : decode cX10_advance 95 = .ok (.aload_n 0, 1) := by decide +kernel
theorem dX10_advance_96 : decode cX10_advance 96 = .ok (.getfield 87, 3) := by decide +kernel
theorem dX10_advance_99 : decode cX10_advance 99 = .ok (.isub, 1) := by decide +kernel
theorem dX10_advance_100 : decode cX10_advance 100 = .ok (.bipush 6, 2) := by decide +kernel
theorem dX10_advance_102 : decode cX10_advance 102 = .ok (.if_icmp .ge 20, 3) := by decide +kernel
theorem dX10_advance_105 : decode cX10_advance 105 = .ok (.bipush 32, 2) := by decide +kernel
theorem dX10_advance_107 : decode cX10_advance 107 = .ok (.iload_n 2, 1) := by decide +kernel
theorem dX10_advance_108 : decode cX10_advance 108 = .ok (.imul, 1) := by decide +kernel
theorem dX10_advance_109 : decode cX10_advance 109 = .ok (.aload_n 0, 1) := by decide +kernel
theorem dX10_advance_110 : decode cX10_advance 110 = .ok (.aload_n 0, 1) := by decide +kernel
theorem dX10_advance_111 : decode cX10_advance 111 = .ok (.getfield 80, 3) := by decide +kernel
theorem dX10_advance_114 : decode cX10_advance 114 = .ok (.invokevirtual 83, 3) := by decide +kernel
theorem dX10_advance_117 : decode cX10_advance 117 = .ok (.iadd, 1) := by decide +kernel
theorem dX10_advance_118 : decode cX10_advance 118 = .ok (.bipush 96, 2) := by decide +kernel
theorem dX10_advance_120 : decode cX10_advance 120 = .ok (.isub, 1) := by decide +kernel
theorem dX10_advance_121 : decode cX10_advance 121 = .ok (.istore_n 2, 1) := by decide +kernel
theorem dX10_advance_122 : decode cX10_advance 122 = .ok (.aload_n 0, 1) := by decide +kernel
theorem dX10_advance_123 : decode cX10_advance 123 = .ok (.dup, 1) := by decide +kernel
theorem dX10_advance_124 : decode cX10_advance 124 = .ok (.getfield 80, 3) := by decide +kernel
theorem dX10_advance_127 : decode cX10_advance 127 = .ok (.iconst 1, 1) := by decide +kernel
theorem dX10_advance_128 : decode cX10_advance 128 = .ok (.iadd, 1) := by decide +kernel
theorem dX10_advance_129 : decode cX10_advance 129 = .ok (.putfield 80, 3) := by decide +kernel
theorem dX10_advance_132 : decode cX10_advance 132 = .ok (.goto (-55), 3) := by decide +kernel
theorem dX10_advance_135 : decode cX10_advance 135 = .ok (.aload_n 0, 1) := by decide +kernel
theorem dX10_advance_136 : decode cX10_advance 136 = .ok (.aload_n 0, 1) := by decide +kernel
theorem dX10_advance_137 : decode cX10_advance 137 = .ok (.getfield 80, 3) := by decide +kernel
theorem dX10_advance_140 : decode cX10_advance 140 = .ok (.aload_n 0, 1) := by decide +kernel
theorem dX10_advance_141 : decode cX10_advance 141 = .ok (.getfield 87, 3) := by decide +kernel
theorem dX10_advance_144 : decode cX10_advance 144 = .ok (.isub, 1) := by decide +kernel
theorem dX10_advance_145 : decode cX10_advance 145 = .ok (.bipush 6, 2) := by decide +kernel
theorem dX10_advance_147 : decode cX10_advance 147 = .ok (.if_icmp .le 8, 3) := by decide +kernel
theorem dX10_advance_150 : decode cX10_advance 150 = .ok (.bipush 99, 2) := by decide +kernel
theorem dX10_advance_152 : decode cX10_advance 152 = .ok (.goto 7, 3) := by decide +kernel
theorem dX10_advance_155 : decode cX10_advance 155 = .ok (.iload_n 2, 1) := by decide +kernel
theorem dX10_advance_156 : decode cX10_advance 156 = .ok (.invokestatic 97, 3) := by decide +kernel
theorem dX10_advance_159 : decode cX10_advance 159 = .ok (.putfield 100, 3) := by decide +kernel
theorem dX10_advance_162 : decode cX10_advance 162 = .ok (.aload_n 0, 1) := by decide +kernel
theorem dX10_advance_163 : decode cX10_advance 163 = .ok (.aload_n 0, 1) := by decide +kernel
theorem dX10_advance_164 : decode cX10_advance 164 = .ok (.getfield 100, 3) := by decide +kernel
theorem dX10_advance_167 : decode cX10_advance 167 = .ok (.bipush 99, 2) := by decide +kernel
theorem dX10_advance_169 : decode cX10_advance 169 = .ok (.if_icmp .ne 7, 3) := by decide +kernel
theorem dX10_advance_172 : decode cX10_advance 172 = .ok (.iconst 4, 1) := by decide +kernel
theorem dX10_advance_173 : decode cX10_advance 173 = .ok (.goto 4, 3) := by decide +kernel
theorem dX10_advance_176 : decode cX10_advance 176 = .ok (.iconst 3, 1) := by decide +kernel
theorem dX10_advance_177 : decode cX10_advance 177 = .ok (.putfield 90, 3) := by decide +kernel
theorem dX10_advance_180 : decode cX10_advance 180 = .ok (.goto 128, 3) := by decide +kernel
theorem dX10_advance_183 : decode cX10_advance 183 = .ok (.iload_n 1, 1) := by decide +kernel
theorem dX10_advance_184 : decode cX10_advance 184 = .ok (.invokestatic 103, 3) := by decide +kernel
theorem dX10_advance_187 : decode cX10_advance 187 = .ok (.ifCond .eq 96, 3) := by decide +kernel
theorem dX10_advance_190 : decode cX10_advance 190 = .ok (.aload_n 0, 1) := by decide +kernel
theorem dX10_advance_191 : decode cX10_advance 191 = .ok (.iconst 0, 1) := by decide +kernel
theorem dX10_advance_192 : decode cX10_advance 192 = .ok (.putfield 106, 3) := by decide +kernel
theorem dX10_advance_195 : decode cX10_advance 195 = .ok (.aload_n 0, 1) := by decide +kernel
theorem dX10_advance_196 : decode cX10_advance 196 = .ok (.aload_n 0, 1) := by decide +kernel
theorem dX10_advance_197 : decode cX10_advance 197 = .ok (.getfield 80, 3) := by decide +kernel
theorem dX10_advance_200 : decode cX10_advance 200 = .ok (.invokevirtual 83, 3) := by decide +kernel
theorem dX10_advance_203 : decode cX10_advance 203 = .ok (.invokestatic 103, 3) := by decide +kernel
theorem dX10_advance_206 : decode cX10_advance 206 = .ok (.ifCond .eq 52, 3) := by decide +kernel
theorem dX10_advance_209 : decode cX10_advance 209 = .ok (.aload_n 0, 1) := by decide +kernel
theorem dX10_advance_210 : decode cX10_advance 210 = .ok (.getfield 80, 3) := by decide +kernel
theorem dX10_advance_213 : decode cX10_advance 213 = .ok (.aload_n 0, 1) := by decide +kernel
theorem dX10_advance_214 : decode cX10_advance 214 = .ok (.getfield 87, 3) := by decide +kernel
theorem dX10_advance_217 : decode cX10_advance 217 = .ok (.isub, 1) := by decide +kernel
theorem dX10_advance_218 : decode cX10_advance 218 = .ok (.iconst 2, 1) := by decide +kernel
theorem dX10_advance_219 : decode cX10_advance 219 = .ok (.if_icmp .ge 26, 3) := by decide +kernel
theorem dX10_advance_222 : decode cX10_advance 222 = .ok (.aload_n 0, 1) := by decide +kernel
theorem dX10_advance_223 : decode cX10_advance 223 = .ok (.bipush 10, 2) := by decide +kernel
theorem dX10_advance_225 : decode cX10_advance 225 = .ok (.aload_n 0, 1) := by decide +kernel
theorem dX10_advance_226 : decode cX10_advance 226 = .ok (.getfield 106, 3) := by decide +kernel
theorem dX10_advance_229 : decode cX10_advance 229 = .ok (.imul, 1) := by decide +kernel
theorem dX10_advance_230 : decode cX10_advance 230 = .ok (.aload_n 0, 1) := by decide +kernel
theorem dX10_advance_231 : decode cX10_advance 231 = .ok (.aload_n 0, 1) := by decide +kernel
theorem dX10_advance_232 : decode cX10_advance 232 = .ok (.getfield 80, 3) := by decide +kernel
theorem dX10_advance_235 : decode cX10_advance 235 = .ok (.invokevirtual 83, 3) := by decide +kernel
theorem dX10_advance_238 : decode cX10_advance 238 = .ok (.iadd, 1) := by decide +kernel
theorem dX10_advance_239 : decode cX10_advance 239 = .ok (.bipush 48, 2) := by decide +kernel
theorem dX10_advance_241 : decode cX10_advance 241 = .ok (.isub, 1) := by decide +kernel
theorem dX10_advance_242 : decode cX10_advance 242 = .ok (.putfield 106, 3) := by decide +kernel
theorem dX10_advance_245 : decode cX10_advance 245 = .ok (.aload_n 0, 1) := by decide +kernel
theorem dX10_advance_246 : decode cX10_advance 246 = .ok (.dup, 1) := by decide +kernel
theorem dX10_advance_247 : decode cX10_advance 247 = .ok (.getfield 80, 3) := by decide +kernel
theorem dX10_advance_250 : decode cX10_advance 250 = .ok (.iconst 1, 1) := by decide +kernel
theorem dX10_advance_251 : decode cX10_advance 251 = .ok (.iadd, 1) := by decide +kernel
theorem dX10_advance_252 : decode cX10_advance 252 = .ok (.putfield 80, 3) := by decide +kernel
theorem dX10_advance_255 : decode cX10_advance 255 = .ok (.goto (-60), 3) := by decide +kernel
theorem dX10_advance_258 : decode cX10_advance 258 = .ok (.aload_n 0, 1) := by decide +kernel
theorem dX10_advance_259 : decode cX10_advance 259 = .ok (.aload_n 0, 1) := by decide +kernel
theorem dX10_advance_260 : decode cX10_advance 260 = .ok (.getfield 80, 3) := by decide +kernel
theorem dX10_advance_263 : decode cX10_advance 263 = .ok (.aload_n 0, 1) := by decide +kernel
theorem dX10_advance_264 : decode cX10_advance 264 = .ok (.getfield 87, 3) := by decide +kernel
theorem dX10_advance_267 : decode cX10_advance 267 = .ok (.isub, 1) := by decide +kernel
theorem dX10_advance_268 : decode cX10_advance 268 = .ok (.iconst 2, 1) := by decide +kernel
theorem dX10_advance_269 : decode cX10_advance 269 = .ok (.if_icmp .le 7, 3) := by decide +kernel
theorem dX10_advance_272 : decode cX10_advance 272 = .ok (.iconst 4, 1) := by decide +kernel
theorem dX10_advance_273 : decode cX10_advance 273 = .ok (.goto 4, 3) := by decide +kernel
theorem dX10_advance_276 : decode cX10_advance 276 = .ok (.iconst 1, 1) := by decide +kernel
theorem dX10_advance_277 : decode cX10_advance 277 = .ok (.putfield 90, 3) := by decide +kernel
theorem dX10_advance_280 : decode cX10_advance 280 = .ok (.goto 28, 3) := by decide +kernel
theorem dX10_advance_283 : decode cX10_advance 283 = .ok (.aload_n 0, 1) := by decide +kernel
theorem dX10_advance_284 : decode cX10_advance 284 = .ok (.dup, 1) := by decide +kernel
theorem dX10_advance_285 : decode cX10_advance 285 = .ok (.getfield 80, 3) := by decide +kernel
theorem dX10_advance_288 : decode cX10_advance 288 = .ok (.iconst 1, 1) := by decide +kernel
theorem dX10_advance_289 : decode cX10_advance 289 = .ok (.iadd, 1) := by decide +kernel
theorem dX10_advance_290 : decode cX10_advance 290 = .ok (.putfield 80, 3) := by decide +kernel
theorem dX10_advance_293 : decode cX10_advance 293 = .ok (.aload_n 0, 1) := by decide +kernel
theorem dX10_advance_294 : decode cX10_advance 294 = .ok (.iload_n 1, 1) := by decide +kernel
theorem dX10_advance_295 : decode cX10_advance 295 = .ok (.bipush 59, 2) := by decide +kernel
theorem dX10_advance_297 : decode cX10_advance 297 = .ok (.if_icmp .ne 7, 3) := by decide +kernel
theorem dX10_advance_300 : decode cX10_advance 300 = .ok (.iconst 2, 1) := by decide +kernel
theorem dX10_advance_301 : decode cX10_advance 301 = .ok (.goto 4, 3) := by decide +kernel
theorem dX10_advance_304 : decode cX10_advance 304 = .ok (.iconst 4, 1) := by decide +kernel
theorem dX10_advance_305 : decode cX10_advance 305 = .ok (.putfield 90, 3) := by decide +kernel
theorem dX10_advance_308 : decode cX10_advance 308 = .ok (.return_, 1) := by decide +kernel
def zX10_advance (Qr : Option PV → Mem → Prop) : XZ := (RX10, 3, 67, 3, none, Qr)
noncomputable def fX10_advance_b195 : Nat → Nat → Mem → Option Mem
  | 0, _, _ => none
  | n + 1, o, F =>
    (fX10_byteAt o (F o 3) F).bind fun r1 =>
    if (fX10_isDigit r1) = 0 then
      if (xw ((F o 3) - (F o 4))) ≤ 2 then
        some (mset F o 5 1)
      else
        some (mset F o 5 4)
    else
      if 2 ≤ (xw ((F o 3) - (F o 4))) then
        fX10_advance_b195 n o (mset F o 3 (xw ((F o 3) + 1)))
      else
        (fX10_byteAt o (F o 3) F).bind fun r6 =>
        fX10_advance_b195 n o (mset (mset F o 6 (xw ((xw ((xw (10 * (F o 6))) + r6)) - 48))) o 3 (xw (((mset F o 6 (xw ((xw ((xw (10 * (F o 6))) + r6)) - 48))) o 3) + 1)))
noncomputable def fX10_advance_b159 (o : Nat) (s0 : Nat) (s1 : Int) (F : Mem) : Option Mem :=
  if ((mset F s0 7 s1) o 7) ≠ 99 then
    some (mset (mset F s0 7 s1) o 5 3)
  else
    some (mset (mset F s0 7 s1) o 5 4)
noncomputable def fX10_advance_b77 : Nat → Nat → Int → Mem → Option Mem
  | 0, _, _, _ => none
  | n + 1, o, x2, F =>
    (fX10_byteAt o (F o 3) F).bind fun r1 =>
    if (fX10_isLetter r1) = 0 then
      if (xw ((F o 3) - (F o 4))) ≤ 6 then
        fX10_advance_b159 o o (fX10_wordOf x2) F
      else
        fX10_advance_b159 o o 99 F
    else
      if 6 ≤ (xw ((F o 3) - (F o 4))) then
        fX10_advance_b77 n o x2 (mset F o 3 (xw ((F o 3) + 1)))
      else
        (fX10_byteAt o (F o 3) F).bind fun r6 =>
        fX10_advance_b77 n o (xw ((xw ((xw (32 * x2)) + r6)) - 96)) (mset F o 3 (xw ((F o 3) + 1)))
noncomputable def fX10_advance_b0 : Nat → Nat → Mem → Option Mem
  | 0, _, _ => none
  | n + 1, o, F =>
    (fX10_byteAt o (F o 3) F).bind fun r1 =>
    if r1 = 10 then
      fX10_advance_b0 n o (mset F o 3 (xw ((F o 3) + 1)))
    else
      (fX10_byteAt o (F o 3) F).bind fun r4 =>
      if r4 ≠ 32 then
        (fX10_byteAt o ((mset F o 4 (F o 3)) o 3) (mset F o 4 (F o 3))).bind fun r7 =>
        if 0 ≤ r7 then
          if (fX10_isLetter r7) = 0 then
            if (fX10_isDigit r7) = 0 then
              if r7 ≠ 59 then
                some (mset (mset (mset F o 4 (F o 3)) o 3 (xw (((mset F o 4 (F o 3)) o 3) + 1))) o 5 4)
              else
                some (mset (mset (mset F o 4 (F o 3)) o 3 (xw (((mset F o 4 (F o 3)) o 3) + 1))) o 5 2)
            else
              fX10_advance_b195 FU o (mset (mset F o 4 (F o 3)) o 6 0)
          else
            fX10_advance_b77 FU o 0 (mset F o 4 (F o 3))
        else
          some (mset (mset F o 4 (F o 3)) o 5 0)
      else
        fX10_advance_b0 n o (mset F o 3 (xw ((F o 3) + 1)))
noncomputable def fX10_advance (o : Nat) (F : Mem) : Option Mem :=
  fX10_advance_b0 FU o F
theorem fX10_advance_b195_ok {Qr : Option PV → Mem → Prop}  : ∀ (n : Nat) (o : Nat) (F : Mem) (res : Mem) (ho : isK o 10), fX10_advance_b195 n o F = some res → Qr none res → PR cX10_advance (zX10_advance Qr) 195 [(0, vR o)] [] F := by
  intro n
  induction n with
  | zero => intro o F res ho h hq; exact nomatch (show (none : Option _) = some _ from h)
  | succ n ih =>
    intro o F res ho h hq
    refine s_aload_n (j := 0) dX10_advance_195 rfl rfl ?_
    refine s_aload_n (j := 0) dX10_advance_196 rfl rfl ?_
    refine s_getI dX10_advance_197 flX10_80 ho ?_
    obtain ⟨r1, hv2, h⟩ := bnd h
    refine s_callV (As := [vI (F o 3)]) (rest := []) (r := (some (vI r1))) (F' := F) dX10_advance_200 (clX10_83 (Nat.le_of_ble_eq_true rfl) (Nat.le_of_ble_eq_true rfl)) ho rfl ⟨_, _, _, rfl, ho, hv2, rfl, rfl⟩ rfl (Nat.le_of_ble_eq_true rfl) ?_
    refine s_callS (As := [vI r1]) (rest := []) (r := (some (vI (fX10_isDigit r1)))) (F' := F) dX10_advance_203 (clX10_103 (Nat.le_of_ble_eq_true rfl) (Nat.le_of_ble_eq_true rfl)) rfl ⟨_, _, rfl, rfl, rfl, rfl⟩ rfl (Nat.le_of_ble_eq_true rfl) ?_
    refine s_if_eq (tgt := 258) dX10_advance_206 rfl (fun hc3 => ?_) (fun hc3 => ?_)
    · have h := ifp hc3 h
      refine s_aload_n (j := 0) dX10_advance_258 rfl rfl ?_
      refine s_aload_n (j := 0) dX10_advance_259 rfl rfl ?_
      refine s_getI dX10_advance_260 flX10_80 ho ?_
      refine s_aload_n (j := 0) dX10_advance_263 rfl rfl ?_
      refine s_getI dX10_advance_264 flX10_87 ho ?_
      refine s_isub dX10_advance_267 ?_
      refine s_iconst dX10_advance_268 (cin rfl) ?_
      refine s_icmp_le (tgt := 276) dX10_advance_269 rfl (fun hc4 => ?_) (fun hc4 => ?_)
      · have h := ifp hc4 h
        refine s_iconst dX10_advance_276 (cin rfl) ?_
        refine s_putI dX10_advance_277 flX10_90 fpX10_5 ho ?_
        refine s_goto (tgt := 308) dX10_advance_280 rfl ?_
        have h := Option.some.inj h
        subst h
        exact s_return dX10_advance_308 rfl hq
      · have h := ifn hc4 h
        refine s_iconst dX10_advance_272 (cin rfl) ?_
        refine s_goto (tgt := 277) dX10_advance_273 rfl ?_
        refine s_putI dX10_advance_277 flX10_90 fpX10_5 ho ?_
        refine s_goto (tgt := 308) dX10_advance_280 rfl ?_
        have h := Option.some.inj h
        subst h
        exact s_return dX10_advance_308 rfl hq
    · have h := ifn hc3 h
      refine s_aload_n (j := 0) dX10_advance_209 rfl rfl ?_
      refine s_getI dX10_advance_210 flX10_80 ho ?_
      refine s_aload_n (j := 0) dX10_advance_213 rfl rfl ?_
      refine s_getI dX10_advance_214 flX10_87 ho ?_
      refine s_isub dX10_advance_217 ?_
      refine s_iconst dX10_advance_218 (cin rfl) ?_
      refine s_icmp_ge (tgt := 245) dX10_advance_219 rfl (fun hc5 => ?_) (fun hc5 => ?_)
      · have h := ifp hc5 h
        refine s_aload_n (j := 0) dX10_advance_245 rfl rfl ?_
        refine s_dup dX10_advance_246 rfl ?_
        refine s_getI dX10_advance_247 flX10_80 ho ?_
        refine s_iconst dX10_advance_250 (cin rfl) ?_
        refine s_iadd dX10_advance_251 ?_
        refine s_putI dX10_advance_252 flX10_80 fpX10_3 ho ?_
        refine s_goto (tgt := 195) dX10_advance_255 rfl ?_
        exact s_sub (ks := [0]) rfl (ih o (mset F o 3 (xw ((F o 3) + 1))) _ ho h hq)
      · have h := ifn hc5 h
        refine s_aload_n (j := 0) dX10_advance_222 rfl rfl ?_
        refine s_bipush dX10_advance_223 rfl (cin rfl) ?_
        refine s_aload_n (j := 0) dX10_advance_225 rfl rfl ?_
        refine s_getI dX10_advance_226 flX10_106 ho ?_
        refine s_imul dX10_advance_229 ?_
        refine s_aload_n (j := 0) dX10_advance_230 rfl rfl ?_
        refine s_aload_n (j := 0) dX10_advance_231 rfl rfl ?_
        refine s_getI dX10_advance_232 flX10_80 ho ?_
        obtain ⟨r6, hv7, h⟩ := bnd h
        refine s_callV (As := [vI (F o 3)]) (rest := [vI (xw (10 * (F o 6))), vR o]) (r := (some (vI r6))) (F' := F) dX10_advance_235 (clX10_83 (Nat.le_of_ble_eq_true rfl) (Nat.le_of_ble_eq_true rfl)) ho rfl ⟨_, _, _, rfl, ho, hv7, rfl, rfl⟩ rfl (Nat.le_of_ble_eq_true rfl) ?_
        refine s_iadd dX10_advance_238 ?_
        refine s_bipush dX10_advance_239 rfl (cin rfl) ?_
        refine s_isub dX10_advance_241 ?_
        refine s_putI dX10_advance_242 flX10_106 fpX10_6 ho ?_
        refine s_aload_n (j := 0) dX10_advance_245 rfl rfl ?_
        refine s_dup dX10_advance_246 rfl ?_
        refine s_getI dX10_advance_247 flX10_80 ho ?_
        refine s_iconst dX10_advance_250 (cin rfl) ?_
        refine s_iadd dX10_advance_251 ?_
        refine s_putI dX10_advance_252 flX10_80 fpX10_3 ho ?_
        refine s_goto (tgt := 195) dX10_advance_255 rfl ?_
        exact s_sub (ks := [0]) rfl (ih o (mset (mset F o 6 (xw ((xw ((xw (10 * (F o 6))) + r6)) - 48))) o 3 (xw (((mset F o 6 (xw ((xw ((xw (10 * (F o 6))) + r6)) - 48))) o 3) + 1))) _ ho h hq)
theorem fX10_advance_b159_ok {Qr : Option PV → Mem → Prop}  : ∀ (o : Nat) (s0 : Nat) (s1 : Int) (F : Mem) (res : Mem) (ho : isK o 10) (hs0 : isK s0 10), fX10_advance_b159 o s0 s1 F = some res → Qr none res → PR cX10_advance (zX10_advance Qr) 159 [(0, vR o)] [vI s1, vR s0] F := by
  intro o s0 s1 F res ho hs0 h hq
  refine s_putI dX10_advance_159 flX10_100 fpX10_7 hs0 ?_
  refine s_aload_n (j := 0) dX10_advance_162 rfl rfl ?_
  refine s_aload_n (j := 0) dX10_advance_163 rfl rfl ?_
  refine s_getI dX10_advance_164 flX10_100 ho ?_
  refine s_bipush dX10_advance_167 rfl (cin rfl) ?_
  refine s_icmp_ne (tgt := 176) dX10_advance_169 rfl (fun hc1 => ?_) (fun hc1 => ?_)
  · have h := ifp hc1 h
    refine s_iconst dX10_advance_176 (cin rfl) ?_
    refine s_putI dX10_advance_177 flX10_90 fpX10_5 ho ?_
    refine s_goto (tgt := 308) dX10_advance_180 rfl ?_
    have h := Option.some.inj h
    subst h
    exact s_return dX10_advance_308 rfl hq
  · have h := ifn hc1 h
    refine s_iconst dX10_advance_172 (cin rfl) ?_
    refine s_goto (tgt := 177) dX10_advance_173 rfl ?_
    refine s_putI dX10_advance_177 flX10_90 fpX10_5 ho ?_
    refine s_goto (tgt := 308) dX10_advance_180 rfl ?_
    have h := Option.some.inj h
    subst h
    exact s_return dX10_advance_308 rfl hq
theorem fX10_advance_b77_ok {Qr : Option PV → Mem → Prop}  : ∀ (n : Nat) (o : Nat) (x2 : Int) (F : Mem) (res : Mem) (ho : isK o 10), fX10_advance_b77 n o x2 F = some res → Qr none res → PR cX10_advance (zX10_advance Qr) 77 [(0, vR o), (2, vI x2)] [] F := by
  intro n
  induction n with
  | zero => intro o x2 F res ho h hq; exact nomatch (show (none : Option _) = some _ from h)
  | succ n ih =>
    intro o x2 F res ho h hq
    refine s_aload_n (j := 0) dX10_advance_77 rfl rfl ?_
    refine s_aload_n (j := 0) dX10_advance_78 rfl rfl ?_
    refine s_getI dX10_advance_79 flX10_80 ho ?_
    obtain ⟨r1, hv2, h⟩ := bnd h
    refine s_callV (As := [vI (F o 3)]) (rest := []) (r := (some (vI r1))) (F' := F) dX10_advance_82 (clX10_83 (Nat.le_of_ble_eq_true rfl) (Nat.le_of_ble_eq_true rfl)) ho rfl ⟨_, _, _, rfl, ho, hv2, rfl, rfl⟩ rfl (Nat.le_of_ble_eq_true rfl) ?_
    refine s_callS (As := [vI r1]) (rest := []) (r := (some (vI (fX10_isLetter r1)))) (F' := F) dX10_advance_85 (clX10_93 (Nat.le_of_ble_eq_true rfl) (Nat.le_of_ble_eq_true rfl)) rfl ⟨_, _, rfl, rfl, rfl, rfl⟩ rfl (Nat.le_of_ble_eq_true rfl) ?_
    refine s_if_eq (tgt := 135) dX10_advance_88 rfl (fun hc3 => ?_) (fun hc3 => ?_)
    · have h := ifp hc3 h
      refine s_aload_n (j := 0) dX10_advance_135 rfl rfl ?_
      refine s_aload_n (j := 0) dX10_advance_136 rfl rfl ?_
      refine s_getI dX10_advance_137 flX10_80 ho ?_
      refine s_aload_n (j := 0) dX10_advance_140 rfl rfl ?_
      refine s_getI dX10_advance_141 flX10_87 ho ?_
      refine s_isub dX10_advance_144 ?_
      refine s_bipush dX10_advance_145 rfl (cin rfl) ?_
      refine s_icmp_le (tgt := 155) dX10_advance_147 rfl (fun hc4 => ?_) (fun hc4 => ?_)
      · have h := ifp hc4 h
        refine s_iload_n (j := 1) dX10_advance_155 rfl rfl ?_
        refine s_callS (As := [vI x2]) (rest := [vR o]) (r := (some (vI (fX10_wordOf x2)))) (F' := F) dX10_advance_156 (clX10_97 (Nat.le_of_ble_eq_true rfl) (Nat.le_of_ble_eq_true rfl)) rfl ⟨_, _, rfl, rfl, rfl, rfl⟩ rfl (Nat.le_of_ble_eq_true rfl) ?_
        exact s_sub (ks := [0]) rfl (fX10_advance_b159_ok o o (fX10_wordOf x2) F _ ho ho h hq)
      · have h := ifn hc4 h
        refine s_bipush dX10_advance_150 rfl (cin rfl) ?_
        refine s_goto (tgt := 159) dX10_advance_152 rfl ?_
        exact s_sub (ks := [0]) rfl (fX10_advance_b159_ok o o 99 F _ ho ho h hq)
    · have h := ifn hc3 h
      refine s_aload_n (j := 0) dX10_advance_91 rfl rfl ?_
      refine s_getI dX10_advance_92 flX10_80 ho ?_
      refine s_aload_n (j := 0) dX10_advance_95 rfl rfl ?_
      refine s_getI dX10_advance_96 flX10_87 ho ?_
      refine s_isub dX10_advance_99 ?_
      refine s_bipush dX10_advance_100 rfl (cin rfl) ?_
      refine s_icmp_ge (tgt := 122) dX10_advance_102 rfl (fun hc5 => ?_) (fun hc5 => ?_)
      · have h := ifp hc5 h
        refine s_aload_n (j := 0) dX10_advance_122 rfl rfl ?_
        refine s_dup dX10_advance_123 rfl ?_
        refine s_getI dX10_advance_124 flX10_80 ho ?_
        refine s_iconst dX10_advance_127 (cin rfl) ?_
        refine s_iadd dX10_advance_128 ?_
        refine s_putI dX10_advance_129 flX10_80 fpX10_3 ho ?_
        refine s_goto (tgt := 77) dX10_advance_132 rfl ?_
        exact s_sub (ks := [0, 1]) rfl (ih o x2 (mset F o 3 (xw ((F o 3) + 1))) _ ho h hq)
      · have h := ifn hc5 h
        refine s_bipush dX10_advance_105 rfl (cin rfl) ?_
        refine s_iload_n (j := 1) dX10_advance_107 rfl rfl ?_
        refine s_imul dX10_advance_108 ?_
        refine s_aload_n (j := 0) dX10_advance_109 rfl rfl ?_
        refine s_aload_n (j := 0) dX10_advance_110 rfl rfl ?_
        refine s_getI dX10_advance_111 flX10_80 ho ?_
        obtain ⟨r6, hv7, h⟩ := bnd h
        refine s_callV (As := [vI (F o 3)]) (rest := [vI (xw (32 * x2))]) (r := (some (vI r6))) (F' := F) dX10_advance_114 (clX10_83 (Nat.le_of_ble_eq_true rfl) (Nat.le_of_ble_eq_true rfl)) ho rfl ⟨_, _, _, rfl, ho, hv7, rfl, rfl⟩ rfl (Nat.le_of_ble_eq_true rfl) ?_
        refine s_iadd dX10_advance_117 ?_
        refine s_bipush dX10_advance_118 rfl (cin rfl) ?_
        refine s_isub dX10_advance_120 ?_
        refine s_istore_n (ls' := [(2, vI (xw ((xw ((xw (32 * x2)) + r6)) - 96))), (0, vR o)]) dX10_advance_121 rfl (Nat.le_of_ble_eq_true rfl) rfl ?_
        refine s_aload_n (j := 1) dX10_advance_122 rfl rfl ?_
        refine s_dup dX10_advance_123 rfl ?_
        refine s_getI dX10_advance_124 flX10_80 ho ?_
        refine s_iconst dX10_advance_127 (cin rfl) ?_
        refine s_iadd dX10_advance_128 ?_
        refine s_putI dX10_advance_129 flX10_80 fpX10_3 ho ?_
        refine s_goto (tgt := 77) dX10_advance_132 rfl ?_
        exact s_sub (ks := [1, 0]) rfl (ih o (xw ((xw ((xw (32 * x2)) + r6)) - 96)) (mset F o 3 (xw ((F o 3) + 1))) _ ho h hq)
theorem fX10_advance_b0_ok {Qr : Option PV → Mem → Prop}  : ∀ (n : Nat) (o : Nat) (F : Mem) (res : Mem) (ho : isK o 10), fX10_advance_b0 n o F = some res → Qr none res → PR cX10_advance (zX10_advance Qr) 0 [(0, vR o)] [] F := by
  intro n
  induction n with
  | zero => intro o F res ho h hq; exact nomatch (show (none : Option _) = some _ from h)
  | succ n ih =>
    intro o F res ho h hq
    refine s_aload_n (j := 0) dX10_advance_0 rfl rfl ?_
    refine s_aload_n (j := 0) dX10_advance_1 rfl rfl ?_
    refine s_getI dX10_advance_2 flX10_80 ho ?_
    obtain ⟨r1, hv2, h⟩ := bnd h
    refine s_callV (As := [vI (F o 3)]) (rest := []) (r := (some (vI r1))) (F' := F) dX10_advance_5 (clX10_83 (Nat.le_of_ble_eq_true rfl) (Nat.le_of_ble_eq_true rfl)) ho rfl ⟨_, _, _, rfl, ho, hv2, rfl, rfl⟩ rfl (Nat.le_of_ble_eq_true rfl) ?_
    refine s_bipush dX10_advance_8 rfl (cin rfl) ?_
    refine s_icmp_eq (tgt := 26) dX10_advance_10 rfl (fun hc3 => ?_) (fun hc3 => ?_)
    · have h := ifp hc3 h
      refine s_aload_n (j := 0) dX10_advance_26 rfl rfl ?_
      refine s_dup dX10_advance_27 rfl ?_
      refine s_getI dX10_advance_28 flX10_80 ho ?_
      refine s_iconst dX10_advance_31 (cin rfl) ?_
      refine s_iadd dX10_advance_32 ?_
      refine s_putI dX10_advance_33 flX10_80 fpX10_3 ho ?_
      refine s_goto (tgt := 0) dX10_advance_36 rfl ?_
      exact s_sub (ks := [0]) rfl (ih o (mset F o 3 (xw ((F o 3) + 1))) _ ho h hq)
    · have h := ifn hc3 h
      refine s_aload_n (j := 0) dX10_advance_13 rfl rfl ?_
      refine s_aload_n (j := 0) dX10_advance_14 rfl rfl ?_
      refine s_getI dX10_advance_15 flX10_80 ho ?_
      obtain ⟨r4, hv5, h⟩ := bnd h
      refine s_callV (As := [vI (F o 3)]) (rest := []) (r := (some (vI r4))) (F' := F) dX10_advance_18 (clX10_83 (Nat.le_of_ble_eq_true rfl) (Nat.le_of_ble_eq_true rfl)) ho rfl ⟨_, _, _, rfl, ho, hv5, rfl, rfl⟩ rfl (Nat.le_of_ble_eq_true rfl) ?_
      refine s_bipush dX10_advance_21 rfl (cin rfl) ?_
      refine s_icmp_ne (tgt := 39) dX10_advance_23 rfl (fun hc6 => ?_) (fun hc6 => ?_)
      · have h := ifp hc6 h
        refine s_aload_n (j := 0) dX10_advance_39 rfl rfl ?_
        refine s_aload_n (j := 0) dX10_advance_40 rfl rfl ?_
        refine s_getI dX10_advance_41 flX10_80 ho ?_
        refine s_putI dX10_advance_44 flX10_87 fpX10_4 ho ?_
        refine s_aload_n (j := 0) dX10_advance_47 rfl rfl ?_
        refine s_aload_n (j := 0) dX10_advance_48 rfl rfl ?_
        refine s_getI dX10_advance_49 flX10_80 ho ?_
        obtain ⟨r7, hv8, h⟩ := bnd h
        refine s_callV (As := [vI ((mset F o 4 (F o 3)) o 3)]) (rest := []) (r := (some (vI r7))) (F' := mset F o 4 (F o 3)) dX10_advance_52 (clX10_83 (Nat.le_of_ble_eq_true rfl) (Nat.le_of_ble_eq_true rfl)) ho rfl ⟨_, _, _, rfl, ho, hv8, rfl, rfl⟩ rfl (Nat.le_of_ble_eq_true rfl) ?_
        refine s_istore_n (ls' := [(1, vI r7), (0, vR o)]) dX10_advance_55 rfl (Nat.le_of_ble_eq_true rfl) rfl ?_
        refine s_iload_n (j := 0) dX10_advance_56 rfl rfl ?_
        refine s_if_ge (tgt := 68) dX10_advance_57 rfl (fun hc9 => ?_) (fun hc9 => ?_)
        · have h := ifp hc9 h
          refine s_iload_n (j := 0) dX10_advance_68 rfl rfl ?_
          refine s_callS (As := [vI r7]) (rest := []) (r := (some (vI (fX10_isLetter r7)))) (F' := mset F o 4 (F o 3)) dX10_advance_69 (clX10_93 (Nat.le_of_ble_eq_true rfl) (Nat.le_of_ble_eq_true rfl)) rfl ⟨_, _, rfl, rfl, rfl, rfl⟩ rfl (Nat.le_of_ble_eq_true rfl) ?_
          refine s_if_eq (tgt := 183) dX10_advance_72 rfl (fun hc10 => ?_) (fun hc10 => ?_)
          · have h := ifp hc10 h
            refine s_iload_n (j := 0) dX10_advance_183 rfl rfl ?_
            refine s_callS (As := [vI r7]) (rest := []) (r := (some (vI (fX10_isDigit r7)))) (F' := mset F o 4 (F o 3)) dX10_advance_184 (clX10_103 (Nat.le_of_ble_eq_true rfl) (Nat.le_of_ble_eq_true rfl)) rfl ⟨_, _, rfl, rfl, rfl, rfl⟩ rfl (Nat.le_of_ble_eq_true rfl) ?_
            refine s_if_eq (tgt := 283) dX10_advance_187 rfl (fun hc11 => ?_) (fun hc11 => ?_)
            · have h := ifp hc11 h
              refine s_aload_n (j := 1) dX10_advance_283 rfl rfl ?_
              refine s_dup dX10_advance_284 rfl ?_
              refine s_getI dX10_advance_285 flX10_80 ho ?_
              refine s_iconst dX10_advance_288 (cin rfl) ?_
              refine s_iadd dX10_advance_289 ?_
              refine s_putI dX10_advance_290 flX10_80 fpX10_3 ho ?_
              refine s_aload_n (j := 1) dX10_advance_293 rfl rfl ?_
              refine s_iload_n (j := 0) dX10_advance_294 rfl rfl ?_
              refine s_bipush dX10_advance_295 rfl (cin rfl) ?_
              refine s_icmp_ne (tgt := 304) dX10_advance_297 rfl (fun hc12 => ?_) (fun hc12 => ?_)
              · have h := ifp hc12 h
                refine s_iconst dX10_advance_304 (cin rfl) ?_
                refine s_putI dX10_advance_305 flX10_90 fpX10_5 ho ?_
                have h := Option.some.inj h
                subst h
                exact s_return dX10_advance_308 rfl hq
              · have h := ifn hc12 h
                refine s_iconst dX10_advance_300 (cin rfl) ?_
                refine s_goto (tgt := 305) dX10_advance_301 rfl ?_
                refine s_putI dX10_advance_305 flX10_90 fpX10_5 ho ?_
                have h := Option.some.inj h
                subst h
                exact s_return dX10_advance_308 rfl hq
            · have h := ifn hc11 h
              refine s_aload_n (j := 1) dX10_advance_190 rfl rfl ?_
              refine s_iconst dX10_advance_191 (cin rfl) ?_
              refine s_putI dX10_advance_192 flX10_106 fpX10_6 ho ?_
              exact s_sub (ks := [1]) rfl (fX10_advance_b195_ok FU o (mset (mset F o 4 (F o 3)) o 6 0) _ ho h hq)
          · have h := ifn hc10 h
            refine s_iconst dX10_advance_75 (cin rfl) ?_
            refine s_istore_n (ls' := [(2, vI 0), (1, vI r7), (0, vR o)]) dX10_advance_76 rfl (Nat.le_of_ble_eq_true rfl) rfl ?_
            exact s_sub (ks := [2, 0]) rfl (fX10_advance_b77_ok FU o 0 (mset F o 4 (F o 3)) _ ho h hq)
        · have h := ifn hc9 h
          refine s_aload_n (j := 1) dX10_advance_60 rfl rfl ?_
          refine s_iconst dX10_advance_61 (cin rfl) ?_
          refine s_putI dX10_advance_62 flX10_90 fpX10_5 ho ?_
          refine s_goto (tgt := 308) dX10_advance_65 rfl ?_
          have h := Option.some.inj h
          subst h
          exact s_return dX10_advance_308 rfl hq
      · have h := ifn hc6 h
        refine s_aload_n (j := 0) dX10_advance_26 rfl rfl ?_
        refine s_dup dX10_advance_27 rfl ?_
        refine s_getI dX10_advance_28 flX10_80 ho ?_
        refine s_iconst dX10_advance_31 (cin rfl) ?_
        refine s_iadd dX10_advance_32 ?_
        refine s_putI dX10_advance_33 flX10_80 fpX10_3 ho ?_
        refine s_goto (tgt := 0) dX10_advance_36 rfl ?_
        exact s_sub (ks := [0]) rfl (ih o (mset F o 3 (xw ((F o 3) + 1))) _ ho h hq)
theorem fX10_advance_ok {Qr : Option PV → Mem → Prop} : ∀ (o : Nat) (F : Mem) (res : Mem) (ho : isK o 10), fX10_advance o F = some res → Qr none res → PR cX10_advance (zX10_advance Qr) 0 [(0, vR o)] [] F := by
  intro o F res ho h hq
  exact s_sub (ks := [0]) rfl (fX10_advance_b0_ok FU o F _ ho h hq)
def gX10_advance : XG := fun As F r F' => ∃ o : Nat, ∃ res : Mem, As = [vR o] ∧ isK o 10 ∧ fX10_advance o F = some res ∧ r = none ∧ F' = res
theorem ctX10_advance : xCT yX10_advance cX10_advance 3 (none) 3 67 gX10_advance := xmet (by decide +kernel) (fun As F r F' hg => by obtain ⟨o, res, rfl, ho, h, rfl, rfl⟩ := hg; exact Nat.le_of_ble_eq_true rfl) (fun As F r F' hg => by obtain ⟨o, res, rfl, ho, h, rfl, rfl⟩ := hg; exact fX10_advance_ok o _ _ ho h ⟨rfl, rfl⟩)
theorem mcX10_advance : Cond.code yX10_advance cX10_advance 3 (none) ∈ xw_T ∧ Cond.initialized yX10_advance.cls ∈ xw_T ∧ Cond.instanceMethod yX10_advance ∈ xw_T ∧ Cond.selects yX10_advance.cls yX10_advance yX10_advance ∈ xw_T := ⟨(xinT 1494 (by decide +kernel) (by decide +kernel)), (xinT 127 (by decide +kernel) (by decide +kernel)), (xinT 1493 (by decide +kernel) (by decide +kernel)), (xinT 41 (by decide +kernel) (by decide +kernel))⟩
theorem clX10_123 {fr lo : Nat} (h1 : 3 + 1 ≤ fr) (h2 : 8 + (3 + 11) + 67 ≤ lo) : xCall RX10 fr lo 0 123 10 0 gX10_advance := ⟨_, _, _, _, _, _, ctX10_advance, h1, h2, mcX10_advance.1, (xinT 1491 (by decide +kernel) (by decide +kernel)), mcX10_advance.2.1, ⟨by decide +kernel, by decide +kernel, by decide +kernel⟩, by rw [if_pos rfl]; exact ⟨mcX10_advance.2.2.1, mcX10_advance.2.2.2, _, _, rfl⟩⟩
theorem dX10_ends_0 : decode cX10_ends 0 = .ok (.aload_n 0, 1) := by decide +kernel
theorem dX10_ends_1 : decode cX10_ends 1 = .ok (.getfield 109, 3) := by decide +kernel
theorem dX10_ends_4 : decode cX10_ends 4 = .ok (.ifCond .eq 4, 3) := by decide +kernel
theorem dX10_ends_7 : decode cX10_ends 7 = .ok (.return_, 1) := by decide +kernel
theorem dX10_ends_8 : decode cX10_ends 8 = .ok (.aload_n 0, 1) := by decide +kernel
theorem dX10_ends_9 : decode cX10_ends 9 = .ok (.iconst 1, 1) := by decide +kernel
theorem dX10_ends_10 : decode cX10_ends 10 = .ok (.putfield 109, 3) := by decide +kernel
theorem dX10_ends_13 : decode cX10_ends 13 = .ok (.aload_n 0, 1) := by decide +kernel
theorem dX10_ends_14 : decode cX10_ends 14 = .ok (.getfield 7, 3) := by decide +kernel
theorem dX10_ends_17 : decode cX10_ends 17 = .ok (.bipush 7, 2) := by decide +kernel
theorem dX10_ends_19 : decode cX10_ends 19 = .ok (.iconst 1, 1) := by decide +kernel
theorem dX10_ends_20 : decode cX10_ends 20 = .ok (.iastore, 1) := by decide +kernel
theorem dX10_ends_21 : decode cX10_ends 21 = .ok (.aload_n 0, 1) := by decide +kernel
theorem dX10_ends_22 : decode cX10_ends 22 = .ok (.getfield 7, 3) := by decide +kernel
theorem dX10_ends_25 : decode cX10_ends 25 = .ok (.bipush 8, 2) := by decide +kernel
theorem dX10_ends_27 : decode cX10_ends 27 = .ok (.aload_n 0, 1) := by decide +kernel
theorem dX10_ends_28 : decode cX10_ends 28 = .ok (.getfield 87, 3) := by decide +kernel
theorem dX10_ends_31 : decode cX10_ends 31 = .ok (.iastore, 1) := by decide +kernel
theorem dX10_ends_32 : decode cX10_ends 32 = .ok (.return_, 1) := by decide +kernel
def zX10_ends (Qr : Option PV → Mem → Prop) : XZ := (RX10, 0, 0, 1, none, Qr)
noncomputable def fX10_ends (o : Nat) (F : Mem) : Option Mem :=
  if (F o 8) = 0 then
    if (0 : Int) ≤ 7 ∧ 7 < (alen (o + 1) : Int) then
      if (0 : Int) ≤ 8 ∧ 8 < (alen (o + 1) : Int) then
        some (mset (mset (mset F o 8 1) (o + 1) 7 1) (o + 1) 8 ((mset (mset F o 8 1) (o + 1) 7 1) o 4))
      else none
    else none
  else
    some F
theorem fX10_ends_ok {Qr : Option PV → Mem → Prop} : ∀ (o : Nat) (F : Mem) (res : Mem) (ho : isK o 10), fX10_ends o F = some res → Qr none res → PR cX10_ends (zX10_ends Qr) 0 [(0, vR o)] [] F := by
  intro o F res ho h hq
  refine s_aload_n (j := 0) dX10_ends_0 rfl rfl ?_
  refine s_getI dX10_ends_1 flX10_109 ho ?_
  refine s_if_eq (tgt := 8) dX10_ends_4 rfl (fun hc1 => ?_) (fun hc1 => ?_)
  · have h := ifp hc1 h
    refine s_aload_n (j := 0) dX10_ends_8 rfl rfl ?_
    refine s_iconst dX10_ends_9 (cin rfl) ?_
    refine s_putZ dX10_ends_10 flX10_109 fpX10_8 ho (Or.inr rfl) ?_
    refine s_aload_n (j := 0) dX10_ends_13 rfl rfl ?_
    refine s_getR dX10_ends_14 flX10_7 ho ?_
    refine s_bipush dX10_ends_17 rfl (cin rfl) ?_
    refine s_iconst dX10_ends_19 (cin rfl) ?_
    obtain ⟨hb2, h⟩ := gd h
    refine s_iastore dX10_ends_20 (trX10_0 ho) hb2.1 hb2.2 ?_
    refine s_aload_n (j := 0) dX10_ends_21 rfl rfl ?_
    refine s_getR dX10_ends_22 flX10_7 ho ?_
    refine s_bipush dX10_ends_25 rfl (cin rfl) ?_
    refine s_aload_n (j := 0) dX10_ends_27 rfl rfl ?_
    refine s_getI dX10_ends_28 flX10_87 ho ?_
    obtain ⟨hb3, h⟩ := gd h
    refine s_iastore dX10_ends_31 (trX10_0 ho) hb3.1 hb3.2 ?_
    have h := Option.some.inj h
    subst h
    exact s_return dX10_ends_32 rfl hq
  · have h := ifn hc1 h
    have h := Option.some.inj h
    subst h
    exact s_return dX10_ends_7 rfl hq
def gX10_ends : XG := fun As F r F' => ∃ o : Nat, ∃ res : Mem, As = [vR o] ∧ isK o 10 ∧ fX10_ends o F = some res ∧ r = none ∧ F' = res
theorem ctX10_ends : xCT yX10_ends cX10_ends 1 (none) 0 0 gX10_ends := xmet (by decide +kernel) (fun As F r F' hg => by obtain ⟨o, res, rfl, ho, h, rfl, rfl⟩ := hg; exact Nat.le_of_ble_eq_true rfl) (fun As F r F' hg => by obtain ⟨o, res, rfl, ho, h, rfl, rfl⟩ := hg; exact fX10_ends_ok o _ _ ho h ⟨rfl, rfl⟩)
theorem mcX10_ends : Cond.code yX10_ends cX10_ends 1 (none) ∈ xw_T ∧ Cond.initialized yX10_ends.cls ∈ xw_T ∧ Cond.instanceMethod yX10_ends ∈ xw_T ∧ Cond.selects yX10_ends.cls yX10_ends yX10_ends ∈ xw_T := ⟨(xinT 1526 (by decide +kernel) (by decide +kernel)), (xinT 127 (by decide +kernel) (by decide +kernel)), (xinT 1525 (by decide +kernel) (by decide +kernel)), (xinT 45 (by decide +kernel) (by decide +kernel))⟩
theorem clX10_112 {fr lo : Nat} (h1 : 0 + 1 ≤ fr) (h2 : 8 + (1 + 11) + 0 ≤ lo) : xCall RX10 fr lo 0 112 10 0 gX10_ends := ⟨_, _, _, _, _, _, ctX10_ends, h1, h2, mcX10_ends.1, (xinT 1523 (by decide +kernel) (by decide +kernel)), mcX10_ends.2.1, ⟨by decide +kernel, by decide +kernel, by decide +kernel⟩, by rw [if_pos rfl]; exact ⟨mcX10_ends.2.2.1, mcX10_ends.2.2.2, _, _, rfl⟩⟩
theorem dX10_also_0 : decode cX10_also 0 = .ok (.aload_n 0, 1) := by decide +kernel
theorem dX10_also_1 : decode cX10_also 1 = .ok (.getfield 109, 3) := by decide +kernel
theorem dX10_also_4 : decode cX10_also 4 = .ok (.ifCond .ne 46, 3) := by decide +kernel
theorem dX10_also_7 : decode cX10_also 7 = .ok (.aload_n 0, 1) := by decide +kernel
theorem dX10_also_8 : decode cX10_also 8 = .ok (.getfield 7, 3) := by decide +kernel
theorem dX10_also_11 : decode cX10_also 11 = .ok (.bipush 7, 2) := by decide +kernel
theorem dX10_also_13 : decode cX10_also 13 = .ok (.iaload, 1) := by decide +kernel
theorem dX10_also_14 : decode cX10_also 14 = .ok (.ifCond .eq 37, 3) := by decide +kernel
theorem dX10_also_17 : decode cX10_also 17 = .ok (.aload_n 0, 1) := by decide +kernel
theorem dX10_also_18 : decode cX10_also 18 = .ok (.getfield 7, 3) := by decide +kernel
theorem dX10_also_21 : decode cX10_also 21 = .ok (.bipush 8, 2) := by decide +kernel
theorem dX10_also_23 : decode cX10_also 23 = .ok (.iaload, 1) := by decide +kernel
theorem dX10_also_24 : decode cX10_also 24 = .ok (.iload_n 2, 1) := by decide +kernel
theorem dX10_also_25 : decode cX10_also 25 = .ok (.if_icmp .lt 25, 3) := by decide +kernel
theorem dX10_also_28 : decode cX10_also 28 = .ok (.aload_n 0, 1) := by decide +kernel
theorem dX10_also_29 : decode cX10_also 29 = .ok (.getfield 7, 3) := by decide +kernel
theorem dX10_also_32 : decode cX10_also 32 = .ok (.bipush 8, 2) := by decide +kernel
theorem dX10_also_34 : decode cX10_also 34 = .ok (.iaload, 1) := by decide +kernel
theorem dX10_also_35 : decode cX10_also 35 = .ok (.iload_n 2, 1) := by decide +kernel
theorem dX10_also_36 : decode cX10_also 36 = .ok (.if_icmp .ne 15, 3) := by decide +kernel
theorem dX10_also_39 : decode cX10_also 39 = .ok (.aload_n 0, 1) := by decide +kernel
theorem dX10_also_40 : decode cX10_also 40 = .ok (.getfield 7, 3) := by decide +kernel
theorem dX10_also_43 : decode cX10_also 43 = .ok (.bipush 7, 2) := by decide +kernel
theorem dX10_also_45 : decode cX10_also 45 = .ok (.iaload, 1) := by decide +kernel
theorem dX10_also_46 : decode cX10_also 46 = .ok (.iload_n 1, 1) := by decide +kernel
theorem dX10_also_47 : decode cX10_also 47 = .ok (.if_icmp .gt 4, 3) := by decide +kernel
theorem dX10_also_50 : decode cX10_also 50 = .ok (.return_, 1) := by decide +kernel
theorem dX10_also_51 : decode cX10_also 51 = .ok (.aload_n 0, 1) := by decide +kernel
theorem dX10_also_52 : decode cX10_also 52 = .ok (.getfield 7, 3) := by decide +kernel
theorem dX10_also_55 : decode cX10_also 55 = .ok (.bipush 7, 2) := by decide +kernel
theorem dX10_also_57 : decode cX10_also 57 = .ok (.iload_n 1, 1) := by decide +kernel
theorem dX10_also_58 : decode cX10_also 58 = .ok (.iastore, 1) := by decide +kernel
theorem dX10_also_59 : decode cX10_also 59 = .ok (.aload_n 0, 1) := by decide +kernel
theorem dX10_also_60 : decode cX10_also 60 = .ok (.getfield 7, 3) := by decide +kernel
theorem dX10_also_63 : decode cX10_also 63 = .ok (.bipush 8, 2) := by decide +kernel
theorem dX10_also_65 : decode cX10_also 65 = .ok (.iload_n 2, 1) := by decide +kernel
theorem dX10_also_66 : decode cX10_also 66 = .ok (.iastore, 1) := by decide +kernel
theorem dX10_also_67 : decode cX10_also 67 = .ok (.return_, 1) := by decide +kernel
def zX10_also (Qr : Option PV → Mem → Prop) : XZ := (RX10, 0, 0, 3, none, Qr)
noncomputable def fX10_also (o : Nat) (x1 : Int) (x2 : Int) (F : Mem) : Option Mem :=
  if (F o 8) ≠ 0 then
    some F
  else
    if (0 : Int) ≤ 7 ∧ 7 < (alen (o + 1) : Int) then
      if (F (o + 1) 7) = 0 then
        if (0 : Int) ≤ 7 ∧ 7 < (alen (o + 1) : Int) then
          if (0 : Int) ≤ 8 ∧ 8 < (alen (o + 1) : Int) then
            some (mset (mset F (o + 1) 7 x1) (o + 1) 8 x2)
          else none
        else none
      else
        if (0 : Int) ≤ 8 ∧ 8 < (alen (o + 1) : Int) then
          if (F (o + 1) 8) < x2 then
            some F
          else
            if (0 : Int) ≤ 8 ∧ 8 < (alen (o + 1) : Int) then
              if (F (o + 1) 8) ≠ x2 then
                if (0 : Int) ≤ 7 ∧ 7 < (alen (o + 1) : Int) then
                  if (0 : Int) ≤ 8 ∧ 8 < (alen (o + 1) : Int) then
                    some (mset (mset F (o + 1) 7 x1) (o + 1) 8 x2)
                  else none
                else none
              else
                if (0 : Int) ≤ 7 ∧ 7 < (alen (o + 1) : Int) then
                  if x1 < (F (o + 1) 7) then
                    if (0 : Int) ≤ 7 ∧ 7 < (alen (o + 1) : Int) then
                      if (0 : Int) ≤ 8 ∧ 8 < (alen (o + 1) : Int) then
                        some (mset (mset F (o + 1) 7 x1) (o + 1) 8 x2)
                      else none
                    else none
                  else
                    some F
                else none
            else none
        else none
    else none
theorem fX10_also_ok {Qr : Option PV → Mem → Prop} : ∀ (o : Nat) (x1 : Int) (x2 : Int) (F : Mem) (res : Mem) (ho : isK o 10), fX10_also o x1 x2 F = some res → Qr none res → PR cX10_also (zX10_also Qr) 0 [(0, vR o), (1, vI x1), (2, vI x2)] [] F := by
  intro o x1 x2 F res ho h hq
  refine s_aload_n (j := 0) dX10_also_0 rfl rfl ?_
  refine s_getI dX10_also_1 flX10_109 ho ?_
  refine s_if_ne (tgt := 50) dX10_also_4 rfl (fun hc1 => ?_) (fun hc1 => ?_)
  · have h := ifp hc1 h
    have h := Option.some.inj h
    subst h
    exact s_return dX10_also_50 rfl hq
  · have h := ifn hc1 h
    refine s_aload_n (j := 0) dX10_also_7 rfl rfl ?_
    refine s_getR dX10_also_8 flX10_7 ho ?_
    refine s_bipush dX10_also_11 rfl (cin rfl) ?_
    obtain ⟨hb2, h⟩ := gd h
    refine s_iaload dX10_also_13 (trX10_0 ho) hb2.1 hb2.2 ?_
    refine s_if_eq (tgt := 51) dX10_also_14 rfl (fun hc3 => ?_) (fun hc3 => ?_)
    · have h := ifp hc3 h
      refine s_aload_n (j := 0) dX10_also_51 rfl rfl ?_
      refine s_getR dX10_also_52 flX10_7 ho ?_
      refine s_bipush dX10_also_55 rfl (cin rfl) ?_
      refine s_iload_n (j := 1) dX10_also_57 rfl rfl ?_
      obtain ⟨hb4, h⟩ := gd h
      refine s_iastore dX10_also_58 (trX10_0 ho) hb4.1 hb4.2 ?_
      refine s_aload_n (j := 0) dX10_also_59 rfl rfl ?_
      refine s_getR dX10_also_60 flX10_7 ho ?_
      refine s_bipush dX10_also_63 rfl (cin rfl) ?_
      refine s_iload_n (j := 2) dX10_also_65 rfl rfl ?_
      obtain ⟨hb5, h⟩ := gd h
      refine s_iastore dX10_also_66 (trX10_0 ho) hb5.1 hb5.2 ?_
      have h := Option.some.inj h
      subst h
      exact s_return dX10_also_67 rfl hq
    · have h := ifn hc3 h
      refine s_aload_n (j := 0) dX10_also_17 rfl rfl ?_
      refine s_getR dX10_also_18 flX10_7 ho ?_
      refine s_bipush dX10_also_21 rfl (cin rfl) ?_
      obtain ⟨hb6, h⟩ := gd h
      refine s_iaload dX10_also_23 (trX10_0 ho) hb6.1 hb6.2 ?_
      refine s_iload_n (j := 2) dX10_also_24 rfl rfl ?_
      refine s_icmp_lt (tgt := 50) dX10_also_25 rfl (fun hc7 => ?_) (fun hc7 => ?_)
      · have h := ifp hc7 h
        have h := Option.some.inj h
        subst h
        exact s_return dX10_also_50 rfl hq
      · have h := ifn hc7 h
        refine s_aload_n (j := 0) dX10_also_28 rfl rfl ?_
        refine s_getR dX10_also_29 flX10_7 ho ?_
        refine s_bipush dX10_also_32 rfl (cin rfl) ?_
        obtain ⟨hb8, h⟩ := gd h
        refine s_iaload dX10_also_34 (trX10_0 ho) hb8.1 hb8.2 ?_
        refine s_iload_n (j := 2) dX10_also_35 rfl rfl ?_
        refine s_icmp_ne (tgt := 51) dX10_also_36 rfl (fun hc9 => ?_) (fun hc9 => ?_)
        · have h := ifp hc9 h
          refine s_aload_n (j := 0) dX10_also_51 rfl rfl ?_
          refine s_getR dX10_also_52 flX10_7 ho ?_
          refine s_bipush dX10_also_55 rfl (cin rfl) ?_
          refine s_iload_n (j := 1) dX10_also_57 rfl rfl ?_
          obtain ⟨hb10, h⟩ := gd h
          refine s_iastore dX10_also_58 (trX10_0 ho) hb10.1 hb10.2 ?_
          refine s_aload_n (j := 0) dX10_also_59 rfl rfl ?_
          refine s_getR dX10_also_60 flX10_7 ho ?_
          refine s_bipush dX10_also_63 rfl (cin rfl) ?_
          refine s_iload_n (j := 2) dX10_also_65 rfl rfl ?_
          obtain ⟨hb11, h⟩ := gd h
          refine s_iastore dX10_also_66 (trX10_0 ho) hb11.1 hb11.2 ?_
          have h := Option.some.inj h
          subst h
          exact s_return dX10_also_67 rfl hq
        · have h := ifn hc9 h
          refine s_aload_n (j := 0) dX10_also_39 rfl rfl ?_
          refine s_getR dX10_also_40 flX10_7 ho ?_
          refine s_bipush dX10_also_43 rfl (cin rfl) ?_
          obtain ⟨hb12, h⟩ := gd h
          refine s_iaload dX10_also_45 (trX10_0 ho) hb12.1 hb12.2 ?_
          refine s_iload_n (j := 1) dX10_also_46 rfl rfl ?_
          refine s_icmp_gt (tgt := 51) dX10_also_47 rfl (fun hc13 => ?_) (fun hc13 => ?_)
          · have h := ifp hc13 h
            refine s_aload_n (j := 0) dX10_also_51 rfl rfl ?_
            refine s_getR dX10_also_52 flX10_7 ho ?_
            refine s_bipush dX10_also_55 rfl (cin rfl) ?_
            refine s_iload_n (j := 1) dX10_also_57 rfl rfl ?_
            obtain ⟨hb14, h⟩ := gd h
            refine s_iastore dX10_also_58 (trX10_0 ho) hb14.1 hb14.2 ?_
            refine s_aload_n (j := 0) dX10_also_59 rfl rfl ?_
            refine s_getR dX10_also_60 flX10_7 ho ?_
            refine s_bipush dX10_also_63 rfl (cin rfl) ?_
            refine s_iload_n (j := 2) dX10_also_65 rfl rfl ?_
            obtain ⟨hb15, h⟩ := gd h
            refine s_iastore dX10_also_66 (trX10_0 ho) hb15.1 hb15.2 ?_
            have h := Option.some.inj h
            subst h
            exact s_return dX10_also_67 rfl hq
          · have h := ifn hc13 h
            have h := Option.some.inj h
            subst h
            exact s_return dX10_also_50 rfl hq
def gX10_also : XG := fun As F r F' => ∃ o : Nat, ∃ x1 : Int, ∃ x2 : Int, ∃ res : Mem, As = [vR o, vI x1, vI x2] ∧ isK o 10 ∧ fX10_also o x1 x2 F = some res ∧ r = none ∧ F' = res
theorem ctX10_also : xCT yX10_also cX10_also 3 (none) 0 0 gX10_also := xmet (by decide +kernel) (fun As F r F' hg => by obtain ⟨o, x1, x2, res, rfl, ho, h, rfl, rfl⟩ := hg; exact Nat.le_of_ble_eq_true rfl) (fun As F r F' hg => by obtain ⟨o, x1, x2, res, rfl, ho, h, rfl, rfl⟩ := hg; exact fX10_also_ok o x1 x2 _ _ ho h ⟨rfl, rfl⟩)
theorem mcX10_also : Cond.code yX10_also cX10_also 3 (none) ∈ xw_T ∧ Cond.initialized yX10_also.cls ∈ xw_T ∧ Cond.instanceMethod yX10_also ∈ xw_T ∧ Cond.selects yX10_also.cls yX10_also yX10_also ∈ xw_T := ⟨(xinT 1534 (by decide +kernel) (by decide +kernel)), (xinT 127 (by decide +kernel) (by decide +kernel)), (xinT 1533 (by decide +kernel) (by decide +kernel)), (xinT 47 (by decide +kernel) (by decide +kernel))⟩
theorem clX10_119 {fr lo : Nat} (h1 : 0 + 1 ≤ fr) (h2 : 8 + (3 + 11) + 0 ≤ lo) : xCall RX10 fr lo 0 119 10 2 gX10_also := ⟨_, _, _, _, _, _, ctX10_also, h1, h2, mcX10_also.1, (xinT 1531 (by decide +kernel) (by decide +kernel)), mcX10_also.2.1, ⟨by decide +kernel, by decide +kernel, by decide +kernel⟩, by rw [if_pos rfl]; exact ⟨mcX10_also.2.2.1, mcX10_also.2.2.2, _, _, rfl⟩⟩
theorem dX10_numbered_0 : decode cX10_numbered 0 = .ok (.aload_n 0, 1) := by decide +kernel
theorem dX10_numbered_1 : decode cX10_numbered 1 = .ok (.getfield 109, 3) := by decide +kernel
theorem dX10_numbered_4 : decode cX10_numbered 4 = .ok (.ifCond .ne 11, 3) := by decide +kernel
theorem dX10_numbered_7 : decode cX10_numbered 7 = .ok (.aload_n 0, 1) := by decide +kernel
theorem dX10_numbered_8 : decode cX10_numbered 8 = .ok (.getfield 90, 3) := by decide +kernel
theorem dX10_numbered_11 : decode cX10_numbered 11 = .ok (.iconst 1, 1) := by decide +kernel
theorem dX10_numbered_12 : decode cX10_numbered 12 = .ok (.if_icmp .eq 9, 3) := by decide +kernel
theorem dX10_numbered_15 : decode cX10_numbered 15 = .ok (.aload_n 0, 1) := by decide +kernel
theorem dX10_numbered_16 : decode cX10_numbered 16 = .ok (.invokevirtual 112, 3) := by decide +kernel
theorem dX10_numbered_19 : decode cX10_numbered 19 = .ok (.iload_n 1, 1) := by decide +kernel
theorem dX10_numbered_20 : decode cX10_numbered 20 = .ok (.ireturn, 1) := by decide +kernel
theorem dX10_numbered_21 : decode cX10_numbered 21 = .ok (.aload_n 0, 1) := by decide +kernel
theorem dX10_numbered_22 : decode cX10_numbered 22 = .ok (.getfield 106, 3) := by decide +kernel
theorem dX10_numbered_25 : decode cX10_numbered 25 = .ok (.istore_n 3, 1) := by decide +kernel
theorem dX10_numbered_26 : decode cX10_numbered 26 = .ok (.iload_n 3, 1) := by decide +kernel
theorem dX10_numbered_27 : decode cX10_numbered 27 = .ok (.iload_n 1, 1) := by decide +kernel
theorem dX10_numbered_28 : decode cX10_numbered 28 = .ok (.iload_n 2, 1) := by decide +kernel
theorem dX10_numbered_29 : decode cX10_numbered 29 = .ok (.invokestatic 115, 3) := by decide +kernel
theorem dX10_numbered_32 : decode cX10_numbered 32 = .ok (.ifCond .ne 12, 3) := by decide +kernel
theorem dX10_numbered_35 : decode cX10_numbered 35 = .ok (.aload_n 0, 1) := by decide +kernel
theorem dX10_numbered_36 : decode cX10_numbered 36 = .ok (.iconst 2, 1) := by decide +kernel
theorem dX10_numbered_37 : decode cX10_numbered 37 = .ok (.aload_n 0, 1) := by decide +kernel
theorem dX10_numbered_38 : decode cX10_numbered 38 = .ok (.getfield 87, 3) := by decide +kernel
theorem dX10_numbered_41 : decode cX10_numbered 41 = .ok (.invokevirtual 119, 3) := by decide +kernel
theorem dX10_numbered_44 : decode cX10_numbered 44 = .ok (.aload_n 0, 1) := by decide +kernel
theorem dX10_numbered_45 : decode cX10_numbered 45 = .ok (.invokevirtual 123, 3) := by decide +kernel
theorem dX10_numbered_48 : decode cX10_numbered 48 = .ok (.iload_n 3, 1) := by decide +kernel
theorem dX10_numbered_49 : decode cX10_numbered 49 = .ok (.iload_n 1, 1) := by decide +kernel
theorem dX10_numbered_50 : decode cX10_numbered 50 = .ok (.iload_n 2, 1) := by decide +kernel
theorem dX10_numbered_51 : decode cX10_numbered 51 = .ok (.invokestatic 115, 3) := by decide +kernel
theorem dX10_numbered_54 : decode cX10_numbered 54 = .ok (.ifCond .eq 7, 3) := by decide +kernel
theorem dX10_numbered_57 : decode cX10_numbered 57 = .ok (.iload_n 3, 1) := by decide +kernel
theorem dX10_numbered_58 : decode cX10_numbered 58 = .ok (.goto 4, 3) := by decide +kernel
theorem dX10_numbered_61 : decode cX10_numbered 61 = .ok (.iload_n 1, 1) := by decide +kernel
theorem dX10_numbered_62 : decode cX10_numbered 62 = .ok (.ireturn, 1) := by decide +kernel
def zX10_numbered (Qr : Option PV → Mem → Prop) : XZ := (RX10, 4, 89, 4, some FieldType.int, Qr)
noncomputable def fX10_numbered_b15 (o : Nat) (x1 : Int) (F : Mem) : Option (Int × Mem) :=
  (fX10_ends o F).bind fun q1 =>
  some (x1, q1)
noncomputable def fX10_numbered_b44 (o : Nat) (x1 : Int) (x2 : Int) (x3 : Int) (F : Mem) : Option (Int × Mem) :=
  (fX10_advance o F).bind fun q1 =>
  if (fX10_isIn x3 x1 x2) = 0 then
    some (x1, q1)
  else
    some (x3, q1)
noncomputable def fX10_numbered (o : Nat) (x1 : Int) (x2 : Int) (F : Mem) : Option (Int × Mem) :=
  if (F o 8) ≠ 0 then
    fX10_numbered_b15 o x1 F
  else
    if (F o 5) = 1 then
      if (fX10_isIn (F o 6) x1 x2) ≠ 0 then
        fX10_numbered_b44 o x1 x2 (F o 6) F
      else
        (fX10_also o 2 (F o 4) F).bind fun q4 =>
        fX10_numbered_b44 o x1 x2 (F o 6) q4
    else
      fX10_numbered_b15 o x1 F
theorem fX10_numbered_b15_ok {Qr : Option PV → Mem → Prop}  : ∀ (o : Nat) (x1 : Int) (F : Mem) (res : (Int × Mem)) (ho : isK o 10), fX10_numbered_b15 o x1 F = some res → Qr (some (vI res.1)) res.2 → PR cX10_numbered (zX10_numbered Qr) 15 [(0, vR o), (1, vI x1)] [] F := by
  intro o x1 F res ho h hq
  refine s_aload_n (j := 0) dX10_numbered_15 rfl rfl ?_
  obtain ⟨q1, hv2, h⟩ := bnd h
  refine s_callV (As := []) (rest := []) (r := none) (F' := q1) dX10_numbered_16 (clX10_112 (Nat.le_of_ble_eq_true rfl) (Nat.le_of_ble_eq_true rfl)) ho rfl ⟨_, _, rfl, ho, hv2, rfl, rfl⟩ rfl (Nat.le_of_ble_eq_true rfl) ?_
  refine s_iload_n (j := 1) dX10_numbered_19 rfl rfl ?_
  have h := Option.some.inj h
  subst h
  exact s_ireturn dX10_numbered_20 rfl hq
theorem fX10_numbered_b44_ok {Qr : Option PV → Mem → Prop}  : ∀ (o : Nat) (x1 : Int) (x2 : Int) (x3 : Int) (F : Mem) (res : (Int × Mem)) (ho : isK o 10), fX10_numbered_b44 o x1 x2 x3 F = some res → Qr (some (vI res.1)) res.2 → PR cX10_numbered (zX10_numbered Qr) 44 [(0, vR o), (1, vI x1), (2, vI x2), (3, vI x3)] [] F := by
  intro o x1 x2 x3 F res ho h hq
  refine s_aload_n (j := 0) dX10_numbered_44 rfl rfl ?_
  obtain ⟨q1, hv2, h⟩ := bnd h
  refine s_callV (As := []) (rest := []) (r := none) (F' := q1) dX10_numbered_45 (clX10_123 (Nat.le_of_ble_eq_true rfl) (Nat.le_of_ble_eq_true rfl)) ho rfl ⟨_, _, rfl, ho, hv2, rfl, rfl⟩ rfl (Nat.le_of_ble_eq_true rfl) ?_
  refine s_iload_n (j := 3) dX10_numbered_48 rfl rfl ?_
  refine s_iload_n (j := 1) dX10_numbered_49 rfl rfl ?_
  refine s_iload_n (j := 2) dX10_numbered_50 rfl rfl ?_
  refine s_callS (As := [vI x3, vI x1, vI x2]) (rest := []) (r := (some (vI (fX10_isIn x3 x1 x2)))) (F' := q1) dX10_numbered_51 (clX10_115 (Nat.le_of_ble_eq_true rfl) (Nat.le_of_ble_eq_true rfl)) rfl ⟨_, _, _, _, rfl, rfl, rfl, rfl⟩ rfl (Nat.le_of_ble_eq_true rfl) ?_
  refine s_if_eq (tgt := 61) dX10_numbered_54 rfl (fun hc3 => ?_) (fun hc3 => ?_)
  · have h := ifp hc3 h
    refine s_iload_n (j := 1) dX10_numbered_61 rfl rfl ?_
    have h := Option.some.inj h
    subst h
    exact s_ireturn dX10_numbered_62 rfl hq
  · have h := ifn hc3 h
    refine s_iload_n (j := 3) dX10_numbered_57 rfl rfl ?_
    refine s_goto (tgt := 62) dX10_numbered_58 rfl ?_
    have h := Option.some.inj h
    subst h
    exact s_ireturn dX10_numbered_62 rfl hq
theorem fX10_numbered_ok {Qr : Option PV → Mem → Prop} : ∀ (o : Nat) (x1 : Int) (x2 : Int) (F : Mem) (res : (Int × Mem)) (ho : isK o 10), fX10_numbered o x1 x2 F = some res → Qr (some (vI res.1)) res.2 → PR cX10_numbered (zX10_numbered Qr) 0 [(0, vR o), (1, vI x1), (2, vI x2)] [] F := by
  intro o x1 x2 F res ho h hq
  refine s_aload_n (j := 0) dX10_numbered_0 rfl rfl ?_
  refine s_getI dX10_numbered_1 flX10_109 ho ?_
  refine s_if_ne (tgt := 15) dX10_numbered_4 rfl (fun hc1 => ?_) (fun hc1 => ?_)
  · have h := ifp hc1 h
    exact s_sub (ks := [0, 1]) rfl (fX10_numbered_b15_ok o x1 F _ ho h hq)
  · have h := ifn hc1 h
    refine s_aload_n (j := 0) dX10_numbered_7 rfl rfl ?_
    refine s_getI dX10_numbered_8 flX10_90 ho ?_
    refine s_iconst dX10_numbered_11 (cin rfl) ?_
    refine s_icmp_eq (tgt := 21) dX10_numbered_12 rfl (fun hc2 => ?_) (fun hc2 => ?_)
    · have h := ifp hc2 h
      refine s_aload_n (j := 0) dX10_numbered_21 rfl rfl ?_
      refine s_getI dX10_numbered_22 flX10_106 ho ?_
      refine s_istore_n (ls' := [(3, vI (F o 6)), (0, vR o), (1, vI x1), (2, vI x2)]) dX10_numbered_25 rfl (Nat.le_of_ble_eq_true rfl) rfl ?_
      refine s_iload_n (j := 0) dX10_numbered_26 rfl rfl ?_
      refine s_iload_n (j := 2) dX10_numbered_27 rfl rfl ?_
      refine s_iload_n (j := 3) dX10_numbered_28 rfl rfl ?_
      refine s_callS (As := [vI (F o 6), vI x1, vI x2]) (rest := []) (r := (some (vI (fX10_isIn (F o 6) x1 x2)))) (F' := F) dX10_numbered_29 (clX10_115 (Nat.le_of_ble_eq_true rfl) (Nat.le_of_ble_eq_true rfl)) rfl ⟨_, _, _, _, rfl, rfl, rfl, rfl⟩ rfl (Nat.le_of_ble_eq_true rfl) ?_
      refine s_if_ne (tgt := 44) dX10_numbered_32 rfl (fun hc3 => ?_) (fun hc3 => ?_)
      · have h := ifp hc3 h
        exact s_sub (ks := [1, 2, 3, 0]) rfl (fX10_numbered_b44_ok o x1 x2 (F o 6) F _ ho h hq)
      · have h := ifn hc3 h
        refine s_aload_n (j := 1) dX10_numbered_35 rfl rfl ?_
        refine s_iconst dX10_numbered_36 (cin rfl) ?_
        refine s_aload_n (j := 1) dX10_numbered_37 rfl rfl ?_
        refine s_getI dX10_numbered_38 flX10_87 ho ?_
        obtain ⟨q4, hv5, h⟩ := bnd h
        refine s_callV (As := [vI 2, vI (F o 4)]) (rest := []) (r := none) (F' := q4) dX10_numbered_41 (clX10_119 (Nat.le_of_ble_eq_true rfl) (Nat.le_of_ble_eq_true rfl)) ho rfl ⟨_, _, _, _, rfl, ho, hv5, rfl, rfl⟩ rfl (Nat.le_of_ble_eq_true rfl) ?_
        exact s_sub (ks := [1, 2, 3, 0]) rfl (fX10_numbered_b44_ok o x1 x2 (F o 6) q4 _ ho h hq)
    · have h := ifn hc2 h
      exact s_sub (ks := [0, 1]) rfl (fX10_numbered_b15_ok o x1 F _ ho h hq)
def gX10_numbered : XG := fun As F r F' => ∃ o : Nat, ∃ x1 : Int, ∃ x2 : Int, ∃ res : (Int × Mem), As = [vR o, vI x1, vI x2] ∧ isK o 10 ∧ fX10_numbered o x1 x2 F = some res ∧ r = some (vI res.1) ∧ F' = res.2
theorem ctX10_numbered : xCT yX10_numbered cX10_numbered 4 (some FieldType.int) 4 89 gX10_numbered := xmet (by decide +kernel) (fun As F r F' hg => by obtain ⟨o, x1, x2, res, rfl, ho, h, rfl, rfl⟩ := hg; exact Nat.le_of_ble_eq_true rfl) (fun As F r F' hg => by obtain ⟨o, x1, x2, res, rfl, ho, h, rfl, rfl⟩ := hg; exact fX10_numbered_ok o x1 x2 _ _ ho h ⟨rfl, rfl⟩)
theorem mcX10_numbered : Cond.code yX10_numbered cX10_numbered 4 (some FieldType.int) ∈ xw_T ∧ Cond.initialized yX10_numbered.cls ∈ xw_T ∧ Cond.instanceMethod yX10_numbered ∈ xw_T ∧ Cond.selects yX10_numbered.cls yX10_numbered yX10_numbered ∈ xw_T := ⟨(xinT 1530 (by decide +kernel) (by decide +kernel)), (xinT 127 (by decide +kernel) (by decide +kernel)), (xinT 1529 (by decide +kernel) (by decide +kernel)), (xinT 46 (by decide +kernel) (by decide +kernel))⟩
theorem clX10_126 {fr lo : Nat} (h1 : 4 + 1 ≤ fr) (h2 : 8 + (4 + 11) + 89 ≤ lo) : xCall RX10 fr lo 0 126 10 2 gX10_numbered := ⟨_, _, _, _, _, _, ctX10_numbered, h1, h2, mcX10_numbered.1, (xinT 1527 (by decide +kernel) (by decide +kernel)), mcX10_numbered.2.1, ⟨by decide +kernel, by decide +kernel, by decide +kernel⟩, by rw [if_pos rfl]; exact ⟨mcX10_numbered.2.2.1, mcX10_numbered.2.2.2, _, _, rfl⟩⟩
theorem dX10_takes_0 : decode cX10_takes 0 = .ok (.aload_n 0, 1) := by decide +kernel
theorem dX10_takes_1 : decode cX10_takes 1 = .ok (.getfield 109, 3) := by decide +kernel
theorem dX10_takes_4 : decode cX10_takes 4 = .ok (.ifCond .ne 23, 3) := by decide +kernel
theorem dX10_takes_7 : decode cX10_takes 7 = .ok (.aload_n 0, 1) := by decide +kernel
theorem dX10_takes_8 : decode cX10_takes 8 = .ok (.getfield 90, 3) := by decide +kernel
theorem dX10_takes_11 : decode cX10_takes 11 = .ok (.iconst 3, 1) := by decide +kernel
theorem dX10_takes_12 : decode cX10_takes 12 = .ok (.if_icmp .ne 15, 3) := by decide +kernel
theorem dX10_takes_15 : decode cX10_takes 15 = .ok (.aload_n 0, 1) := by decide +kernel
theorem dX10_takes_16 : decode cX10_takes 16 = .ok (.getfield 100, 3) := by decide +kernel
theorem dX10_takes_19 : decode cX10_takes 19 = .ok (.iload_n 1, 1) := by decide +kernel
theorem dX10_takes_20 : decode cX10_takes 20 = .ok (.iload_n 2, 1) := by decide +kernel
theorem dX10_takes_21 : decode cX10_takes 21 = .ok (.invokestatic 115, 3) := by decide +kernel
theorem dX10_takes_24 : decode cX10_takes 24 = .ok (.ifCond .ne 9, 3) := by decide +kernel
theorem dX10_takes_27 : decode cX10_takes 27 = .ok (.aload_n 0, 1) := by decide +kernel
theorem dX10_takes_28 : decode cX10_takes 28 = .ok (.invokevirtual 112, 3) := by decide +kernel
theorem dX10_takes_31 : decode cX10_takes 31 = .ok (.iconst 0, 1) := by decide +kernel
theorem dX10_takes_32 : decode cX10_takes 32 = .ok (.ireturn, 1) := by decide +kernel
theorem dX10_takes_33 : decode cX10_takes 33 = .ok (.aload_n 0, 1) := by decide +kernel
theorem dX10_takes_34 : decode cX10_takes 34 = .ok (.getfield 100, 3) := by decide +kernel
theorem dX10_takes_37 : decode cX10_takes 37 = .ok (.istore_n 3, 1) := by decide +kernel
theorem dX10_takes_38 : decode cX10_takes 38 = .ok (.aload_n 0, 1) := by decide +kernel
theorem dX10_takes_39 : decode cX10_takes 39 = .ok (.invokevirtual 123, 3) := by decide +kernel
theorem dX10_takes_42 : decode cX10_takes 42 = .ok (.iload_n 3, 1) := by decide +kernel
theorem dX10_takes_43 : decode cX10_takes 43 = .ok (.ireturn, 1) := by decide +kernel
def zX10_takes (Qr : Option PV → Mem → Prop) : XZ := (RX10, 4, 89, 4, some FieldType.int, Qr)
noncomputable def fX10_takes_b27 (o : Nat) (F : Mem) : Option (Int × Mem) :=
  (fX10_ends o F).bind fun q1 =>
  some (0, q1)
noncomputable def fX10_takes (o : Nat) (x1 : Int) (x2 : Int) (F : Mem) : Option (Int × Mem) :=
  if (F o 8) ≠ 0 then
    fX10_takes_b27 o F
  else
    if (F o 5) ≠ 3 then
      fX10_takes_b27 o F
    else
      if (fX10_isIn (F o 7) x1 x2) ≠ 0 then
        (fX10_advance o F).bind fun q4 =>
        some (F o 7, q4)
      else
        fX10_takes_b27 o F
theorem fX10_takes_b27_ok {Qr : Option PV → Mem → Prop}  : ∀ (o : Nat) (F : Mem) (res : (Int × Mem)) (ho : isK o 10), fX10_takes_b27 o F = some res → Qr (some (vI res.1)) res.2 → PR cX10_takes (zX10_takes Qr) 27 [(0, vR o)] [] F := by
  intro o F res ho h hq
  refine s_aload_n (j := 0) dX10_takes_27 rfl rfl ?_
  obtain ⟨q1, hv2, h⟩ := bnd h
  refine s_callV (As := []) (rest := []) (r := none) (F' := q1) dX10_takes_28 (clX10_112 (Nat.le_of_ble_eq_true rfl) (Nat.le_of_ble_eq_true rfl)) ho rfl ⟨_, _, rfl, ho, hv2, rfl, rfl⟩ rfl (Nat.le_of_ble_eq_true rfl) ?_
  refine s_iconst dX10_takes_31 (cin rfl) ?_
  have h := Option.some.inj h
  subst h
  exact s_ireturn dX10_takes_32 rfl hq
theorem fX10_takes_ok {Qr : Option PV → Mem → Prop} : ∀ (o : Nat) (x1 : Int) (x2 : Int) (F : Mem) (res : (Int × Mem)) (ho : isK o 10), fX10_takes o x1 x2 F = some res → Qr (some (vI res.1)) res.2 → PR cX10_takes (zX10_takes Qr) 0 [(0, vR o), (1, vI x1), (2, vI x2)] [] F := by
  intro o x1 x2 F res ho h hq
  refine s_aload_n (j := 0) dX10_takes_0 rfl rfl ?_
  refine s_getI dX10_takes_1 flX10_109 ho ?_
  refine s_if_ne (tgt := 27) dX10_takes_4 rfl (fun hc1 => ?_) (fun hc1 => ?_)
  · have h := ifp hc1 h
    exact s_sub (ks := [0]) rfl (fX10_takes_b27_ok o F _ ho h hq)
  · have h := ifn hc1 h
    refine s_aload_n (j := 0) dX10_takes_7 rfl rfl ?_
    refine s_getI dX10_takes_8 flX10_90 ho ?_
    refine s_iconst dX10_takes_11 (cin rfl) ?_
    refine s_icmp_ne (tgt := 27) dX10_takes_12 rfl (fun hc2 => ?_) (fun hc2 => ?_)
    · have h := ifp hc2 h
      exact s_sub (ks := [0]) rfl (fX10_takes_b27_ok o F _ ho h hq)
    · have h := ifn hc2 h
      refine s_aload_n (j := 0) dX10_takes_15 rfl rfl ?_
      refine s_getI dX10_takes_16 flX10_100 ho ?_
      refine s_iload_n (j := 1) dX10_takes_19 rfl rfl ?_
      refine s_iload_n (j := 2) dX10_takes_20 rfl rfl ?_
      refine s_callS (As := [vI (F o 7), vI x1, vI x2]) (rest := []) (r := (some (vI (fX10_isIn (F o 7) x1 x2)))) (F' := F) dX10_takes_21 (clX10_115 (Nat.le_of_ble_eq_true rfl) (Nat.le_of_ble_eq_true rfl)) rfl ⟨_, _, _, _, rfl, rfl, rfl, rfl⟩ rfl (Nat.le_of_ble_eq_true rfl) ?_
      refine s_if_ne (tgt := 33) dX10_takes_24 rfl (fun hc3 => ?_) (fun hc3 => ?_)
      · have h := ifp hc3 h
        refine s_aload_n (j := 0) dX10_takes_33 rfl rfl ?_
        refine s_getI dX10_takes_34 flX10_100 ho ?_
        refine s_istore_n (ls' := [(3, vI (F o 7)), (0, vR o), (1, vI x1), (2, vI x2)]) dX10_takes_37 rfl (Nat.le_of_ble_eq_true rfl) rfl ?_
        refine s_aload_n (j := 1) dX10_takes_38 rfl rfl ?_
        obtain ⟨q4, hv5, h⟩ := bnd h
        refine s_callV (As := []) (rest := []) (r := none) (F' := q4) dX10_takes_39 (clX10_123 (Nat.le_of_ble_eq_true rfl) (Nat.le_of_ble_eq_true rfl)) ho rfl ⟨_, _, rfl, ho, hv5, rfl, rfl⟩ rfl (Nat.le_of_ble_eq_true rfl) ?_
        refine s_iload_n (j := 0) dX10_takes_42 rfl rfl ?_
        have h := Option.some.inj h
        subst h
        exact s_ireturn dX10_takes_43 rfl hq
      · have h := ifn hc3 h
        exact s_sub (ks := [0]) rfl (fX10_takes_b27_ok o F _ ho h hq)
def gX10_takes : XG := fun As F r F' => ∃ o : Nat, ∃ x1 : Int, ∃ x2 : Int, ∃ res : (Int × Mem), As = [vR o, vI x1, vI x2] ∧ isK o 10 ∧ fX10_takes o x1 x2 F = some res ∧ r = some (vI res.1) ∧ F' = res.2
theorem ctX10_takes : xCT yX10_takes cX10_takes 4 (some FieldType.int) 4 89 gX10_takes := xmet (by decide +kernel) (fun As F r F' hg => by obtain ⟨o, x1, x2, res, rfl, ho, h, rfl, rfl⟩ := hg; exact Nat.le_of_ble_eq_true rfl) (fun As F r F' hg => by obtain ⟨o, x1, x2, res, rfl, ho, h, rfl, rfl⟩ := hg; exact fX10_takes_ok o x1 x2 _ _ ho h ⟨rfl, rfl⟩)
theorem mcX10_takes : Cond.code yX10_takes cX10_takes 4 (some FieldType.int) ∈ xw_T ∧ Cond.initialized yX10_takes.cls ∈ xw_T ∧ Cond.instanceMethod yX10_takes ∈ xw_T ∧ Cond.selects yX10_takes.cls yX10_takes yX10_takes ∈ xw_T := ⟨(xinT 1522 (by decide +kernel) (by decide +kernel)), (xinT 127 (by decide +kernel) (by decide +kernel)), (xinT 1521 (by decide +kernel) (by decide +kernel)), (xinT 44 (by decide +kernel) (by decide +kernel))⟩
theorem clX10_130 {fr lo : Nat} (h1 : 4 + 1 ≤ fr) (h2 : 8 + (4 + 11) + 89 ≤ lo) : xCall RX10 fr lo 0 130 10 2 gX10_takes := ⟨_, _, _, _, _, _, ctX10_takes, h1, h2, mcX10_takes.1, (xinT 1519 (by decide +kernel) (by decide +kernel)), mcX10_takes.2.1, ⟨by decide +kernel, by decide +kernel, by decide +kernel⟩, by rw [if_pos rfl]; exact ⟨mcX10_takes.2.2.1, mcX10_takes.2.2.2, _, _, rfl⟩⟩
theorem dX10_endsLine_0 : decode cX10_endsLine 0 = .ok (.aload_n 0, 1) := by decide +kernel
theorem dX10_endsLine_1 : decode cX10_endsLine 1 = .ok (.getfield 109, 3) := by decide +kernel
theorem dX10_endsLine_4 : decode cX10_endsLine 4 = .ok (.ifCond .ne 18, 3) := by decide +kernel
theorem dX10_endsLine_7 : decode cX10_endsLine 7 = .ok (.aload_n 0, 1) := by decide +kernel
theorem dX10_endsLine_8 : decode cX10_endsLine 8 = .ok (.getfield 90, 3) := by decide +kernel
theorem dX10_endsLine_11 : decode cX10_endsLine 11 = .ok (.iconst 2, 1) := by decide +kernel
theorem dX10_endsLine_12 : decode cX10_endsLine 12 = .ok (.if_icmp .ne 10, 3) := by decide +kernel
theorem dX10_endsLine_15 : decode cX10_endsLine 15 = .ok (.aload_n 0, 1) := by decide +kernel
theorem dX10_endsLine_16 : decode cX10_endsLine 16 = .ok (.invokevirtual 123, 3) := by decide +kernel
theorem dX10_endsLine_19 : decode cX10_endsLine 19 = .ok (.goto 7, 3) := by decide +kernel
theorem dX10_endsLine_22 : decode cX10_endsLine 22 = .ok (.aload_n 0, 1) := by decide +kernel
theorem dX10_endsLine_23 : decode cX10_endsLine 23 = .ok (.invokevirtual 112, 3) := by decide +kernel
theorem dX10_endsLine_26 : decode cX10_endsLine 26 = .ok (.return_, 1) := by decide +kernel
def zX10_endsLine (Qr : Option PV → Mem → Prop) : XZ := (RX10, 4, 89, 1, none, Qr)
noncomputable def fX10_endsLine_b22 (o : Nat) (F : Mem) : Option Mem :=
  (fX10_ends o F).bind fun q1 =>
  some q1
noncomputable def fX10_endsLine (o : Nat) (F : Mem) : Option Mem :=
  if (F o 8) ≠ 0 then
    fX10_endsLine_b22 o F
  else
    if (F o 5) ≠ 2 then
      fX10_endsLine_b22 o F
    else
      (fX10_advance o F).bind fun q3 =>
      some q3
theorem fX10_endsLine_b22_ok {Qr : Option PV → Mem → Prop}  : ∀ (o : Nat) (F : Mem) (res : Mem) (ho : isK o 10), fX10_endsLine_b22 o F = some res → Qr none res → PR cX10_endsLine (zX10_endsLine Qr) 22 [(0, vR o)] [] F := by
  intro o F res ho h hq
  refine s_aload_n (j := 0) dX10_endsLine_22 rfl rfl ?_
  obtain ⟨q1, hv2, h⟩ := bnd h
  refine s_callV (As := []) (rest := []) (r := none) (F' := q1) dX10_endsLine_23 (clX10_112 (Nat.le_of_ble_eq_true rfl) (Nat.le_of_ble_eq_true rfl)) ho rfl ⟨_, _, rfl, ho, hv2, rfl, rfl⟩ rfl (Nat.le_of_ble_eq_true rfl) ?_
  have h := Option.some.inj h
  subst h
  exact s_return dX10_endsLine_26 rfl hq
theorem fX10_endsLine_ok {Qr : Option PV → Mem → Prop} : ∀ (o : Nat) (F : Mem) (res : Mem) (ho : isK o 10), fX10_endsLine o F = some res → Qr none res → PR cX10_endsLine (zX10_endsLine Qr) 0 [(0, vR o)] [] F := by
  intro o F res ho h hq
  refine s_aload_n (j := 0) dX10_endsLine_0 rfl rfl ?_
  refine s_getI dX10_endsLine_1 flX10_109 ho ?_
  refine s_if_ne (tgt := 22) dX10_endsLine_4 rfl (fun hc1 => ?_) (fun hc1 => ?_)
  · have h := ifp hc1 h
    exact s_sub (ks := [0]) rfl (fX10_endsLine_b22_ok o F _ ho h hq)
  · have h := ifn hc1 h
    refine s_aload_n (j := 0) dX10_endsLine_7 rfl rfl ?_
    refine s_getI dX10_endsLine_8 flX10_90 ho ?_
    refine s_iconst dX10_endsLine_11 (cin rfl) ?_
    refine s_icmp_ne (tgt := 22) dX10_endsLine_12 rfl (fun hc2 => ?_) (fun hc2 => ?_)
    · have h := ifp hc2 h
      exact s_sub (ks := [0]) rfl (fX10_endsLine_b22_ok o F _ ho h hq)
    · have h := ifn hc2 h
      refine s_aload_n (j := 0) dX10_endsLine_15 rfl rfl ?_
      obtain ⟨q3, hv4, h⟩ := bnd h
      refine s_callV (As := []) (rest := []) (r := none) (F' := q3) dX10_endsLine_16 (clX10_123 (Nat.le_of_ble_eq_true rfl) (Nat.le_of_ble_eq_true rfl)) ho rfl ⟨_, _, rfl, ho, hv4, rfl, rfl⟩ rfl (Nat.le_of_ble_eq_true rfl) ?_
      refine s_goto (tgt := 26) dX10_endsLine_19 rfl ?_
      have h := Option.some.inj h
      subst h
      exact s_return dX10_endsLine_26 rfl hq
def gX10_endsLine : XG := fun As F r F' => ∃ o : Nat, ∃ res : Mem, As = [vR o] ∧ isK o 10 ∧ fX10_endsLine o F = some res ∧ r = none ∧ F' = res
theorem ctX10_endsLine : xCT yX10_endsLine cX10_endsLine 1 (none) 4 89 gX10_endsLine := xmet (by decide +kernel) (fun As F r F' hg => by obtain ⟨o, res, rfl, ho, h, rfl, rfl⟩ := hg; exact Nat.le_of_ble_eq_true rfl) (fun As F r F' hg => by obtain ⟨o, res, rfl, ho, h, rfl, rfl⟩ := hg; exact fX10_endsLine_ok o _ _ ho h ⟨rfl, rfl⟩)
theorem mcX10_endsLine : Cond.code yX10_endsLine cX10_endsLine 1 (none) ∈ xw_T ∧ Cond.initialized yX10_endsLine.cls ∈ xw_T ∧ Cond.instanceMethod yX10_endsLine ∈ xw_T ∧ Cond.selects yX10_endsLine.cls yX10_endsLine yX10_endsLine ∈ xw_T := ⟨(xinT 1546 (by decide +kernel) (by decide +kernel)), (xinT 127 (by decide +kernel) (by decide +kernel)), (xinT 1545 (by decide +kernel) (by decide +kernel)), (xinT 50 (by decide +kernel) (by decide +kernel))⟩
theorem clX10_140 {fr lo : Nat} (h1 : 4 + 1 ≤ fr) (h2 : 8 + (1 + 11) + 89 ≤ lo) : xCall RX10 fr lo 0 140 10 0 gX10_endsLine := ⟨_, _, _, _, _, _, ctX10_endsLine, h1, h2, mcX10_endsLine.1, (xinT 1543 (by decide +kernel) (by decide +kernel)), mcX10_endsLine.2.1, ⟨by decide +kernel, by decide +kernel, by decide +kernel⟩, by rw [if_pos rfl]; exact ⟨mcX10_endsLine.2.2.1, mcX10_endsLine.2.2.2, _, _, rfl⟩⟩
theorem dX10_slotsTo_0 : decode cX10_slotsTo 0 = .ok (.aload_n 0, 1) := by decide +kernel
theorem dX10_slotsTo_1 : decode cX10_slotsTo 1 = .ok (.iconst 0, 1) := by decide +kernel
theorem dX10_slotsTo_2 : decode cX10_slotsTo 2 = .ok (.bipush 47, 2) := by decide +kernel
theorem dX10_slotsTo_4 : decode cX10_slotsTo 4 = .ok (.invokevirtual 126, 3) := by decide +kernel
theorem dX10_slotsTo_7 : decode cX10_slotsTo 7 = .ok (.istore_n 3, 1) := by decide +kernel
theorem dX10_slotsTo_8 : decode cX10_slotsTo 8 = .ok (.aload_n 0, 1) := by decide +kernel
theorem dX10_slotsTo_9 : decode cX10_slotsTo 9 = .ok (.iload_n 3, 1) := by decide +kernel
theorem dX10_slotsTo_10 : decode cX10_slotsTo 10 = .ok (.iconst 1, 1) := by decide +kernel
theorem dX10_slotsTo_11 : decode cX10_slotsTo 11 = .ok (.iadd, 1) := by decide +kernel
theorem dX10_slotsTo_12 : decode cX10_slotsTo 12 = .ok (.bipush 48, 2) := by decide +kernel
theorem dX10_slotsTo_14 : decode cX10_slotsTo 14 = .ok (.invokevirtual 126, 3) := by decide +kernel
theorem dX10_slotsTo_17 : decode cX10_slotsTo 17 = .ok (.istore 4, 2) := by decide +kernel
theorem dX10_slotsTo_19 : decode cX10_slotsTo 19 = .ok (.iload_n 2, 1) := by decide +kernel
theorem dX10_slotsTo_20 : decode cX10_slotsTo 20 = .ok (.ifCond .ne 4, 3) := by decide +kernel
theorem dX10_slotsTo_23 : decode cX10_slotsTo 23 = .ok (.return_, 1) := by decide +kernel
theorem dX10_slotsTo_24 : decode cX10_slotsTo 24 = .ok (.aload_n 0, 1) := by decide +kernel
theorem dX10_slotsTo_25 : decode cX10_slotsTo 25 = .ok (.getfield 17, 3) := by decide +kernel
theorem dX10_slotsTo_28 : decode cX10_slotsTo 28 = .ok (.iload_n 1, 1) := by decide +kernel
theorem dX10_slotsTo_29 : decode cX10_slotsTo 29 = .ok (.iload_n 3, 1) := by decide +kernel
theorem dX10_slotsTo_30 : decode cX10_slotsTo 30 = .ok (.iastore, 1) := by decide +kernel
theorem dX10_slotsTo_31 : decode cX10_slotsTo 31 = .ok (.aload_n 0, 1) := by decide +kernel
theorem dX10_slotsTo_32 : decode cX10_slotsTo 32 = .ok (.getfield 17, 3) := by decide +kernel
theorem dX10_slotsTo_35 : decode cX10_slotsTo 35 = .ok (.iload_n 1, 1) := by decide +kernel
theorem dX10_slotsTo_36 : decode cX10_slotsTo 36 = .ok (.iconst 1, 1) := by decide +kernel
theorem dX10_slotsTo_37 : decode cX10_slotsTo 37 = .ok (.iadd, 1) := by decide +kernel
theorem dX10_slotsTo_38 : decode cX10_slotsTo 38 = .ok (.iload 4, 2) := by decide +kernel
theorem dX10_slotsTo_40 : decode cX10_slotsTo 40 = .ok (.iastore, 1) := by decide +kernel
theorem dX10_slotsTo_41 : decode cX10_slotsTo 41 = .ok (.return_, 1) := by decide +kernel
def zX10_slotsTo (Qr : Option PV → Mem → Prop) : XZ := (RX10, 5, 112, 5, none, Qr)
noncomputable def fX10_slotsTo (o : Nat) (x1 : Int) (x2 : Int) (F : Mem) : Option Mem :=
  (fX10_numbered o 0 47 F).bind fun q1 =>
  (fX10_numbered o (xw (q1.1 + 1)) 48 q1.2).bind fun q3 =>
  if x2 ≠ 0 then
    if (0 : Int) ≤ x1 ∧ x1 < (alen (o + 3) : Int) then
      if (0 : Int) ≤ (xw (x1 + 1)) ∧ (xw (x1 + 1)) < (alen (o + 3) : Int) then
        some (mset (mset q3.2 (o + 3) x1.toNat q1.1) (o + 3) (xw (x1 + 1)).toNat q3.1)
      else none
    else none
  else
    some q3.2
theorem fX10_slotsTo_ok {Qr : Option PV → Mem → Prop} : ∀ (o : Nat) (x1 : Int) (x2 : Int) (F : Mem) (res : Mem) (ho : isK o 10), fX10_slotsTo o x1 x2 F = some res → Qr none res → PR cX10_slotsTo (zX10_slotsTo Qr) 0 [(0, vR o), (1, vI x1), (2, vI x2)] [] F := by
  intro o x1 x2 F res ho h hq
  refine s_aload_n (j := 0) dX10_slotsTo_0 rfl rfl ?_
  refine s_iconst dX10_slotsTo_1 (cin rfl) ?_
  refine s_bipush dX10_slotsTo_2 rfl (cin rfl) ?_
  obtain ⟨q1, hv2, h⟩ := bnd h
  refine s_callV (As := [vI 0, vI 47]) (rest := []) (r := (some (vI q1.1))) (F' := q1.2) dX10_slotsTo_4 (clX10_126 (Nat.le_of_ble_eq_true rfl) (Nat.le_of_ble_eq_true rfl)) ho rfl ⟨_, _, _, _, rfl, ho, hv2, rfl, rfl⟩ rfl (Nat.le_of_ble_eq_true rfl) ?_
  refine s_istore_n (ls' := [(3, vI q1.1), (0, vR o), (1, vI x1), (2, vI x2)]) dX10_slotsTo_7 rfl (Nat.le_of_ble_eq_true rfl) rfl ?_
  refine s_aload_n (j := 1) dX10_slotsTo_8 rfl rfl ?_
  refine s_iload_n (j := 0) dX10_slotsTo_9 rfl rfl ?_
  refine s_iconst dX10_slotsTo_10 (cin rfl) ?_
  refine s_iadd dX10_slotsTo_11 ?_
  refine s_bipush dX10_slotsTo_12 rfl (cin rfl) ?_
  obtain ⟨q3, hv4, h⟩ := bnd h
  refine s_callV (As := [vI (xw (q1.1 + 1)), vI 48]) (rest := []) (r := (some (vI q3.1))) (F' := q3.2) dX10_slotsTo_14 (clX10_126 (Nat.le_of_ble_eq_true rfl) (Nat.le_of_ble_eq_true rfl)) ho rfl ⟨_, _, _, _, rfl, ho, hv4, rfl, rfl⟩ rfl (Nat.le_of_ble_eq_true rfl) ?_
  refine s_istore dX10_slotsTo_17 (Nat.le_of_ble_eq_true rfl) rfl ?_
  refine s_iload_n (j := 4) dX10_slotsTo_19 rfl rfl ?_
  refine s_if_ne (tgt := 24) dX10_slotsTo_20 rfl (fun hc5 => ?_) (fun hc5 => ?_)
  · have h := ifp hc5 h
    refine s_aload_n (j := 2) dX10_slotsTo_24 rfl rfl ?_
    refine s_getR dX10_slotsTo_25 flX10_17 ho ?_
    refine s_iload_n (j := 3) dX10_slotsTo_28 rfl rfl ?_
    refine s_iload_n (j := 1) dX10_slotsTo_29 rfl rfl ?_
    obtain ⟨hb6, h⟩ := gd h
    refine s_iastore dX10_slotsTo_30 (trX10_9 ho) hb6.1 hb6.2 ?_
    refine s_aload_n (j := 2) dX10_slotsTo_31 rfl rfl ?_
    refine s_getR dX10_slotsTo_32 flX10_17 ho ?_
    refine s_iload_n (j := 3) dX10_slotsTo_35 rfl rfl ?_
    refine s_iconst dX10_slotsTo_36 (cin rfl) ?_
    refine s_iadd dX10_slotsTo_37 ?_
    refine s_iload (j := 0) dX10_slotsTo_38 rfl ?_
    obtain ⟨hb7, h⟩ := gd h
    refine s_iastore dX10_slotsTo_40 (trX10_9 ho) hb7.1 hb7.2 ?_
    have h := Option.some.inj h
    subst h
    exact s_return dX10_slotsTo_41 rfl hq
  · have h := ifn hc5 h
    have h := Option.some.inj h
    subst h
    exact s_return dX10_slotsTo_23 rfl hq
def gX10_slotsTo : XG := fun As F r F' => ∃ o : Nat, ∃ x1 : Int, ∃ x2 : Int, ∃ res : Mem, As = [vR o, vI x1, vI x2] ∧ isK o 10 ∧ fX10_slotsTo o x1 x2 F = some res ∧ r = none ∧ F' = res
theorem ctX10_slotsTo : xCT yX10_slotsTo cX10_slotsTo 5 (none) 5 112 gX10_slotsTo := xmet (by decide +kernel) (fun As F r F' hg => by obtain ⟨o, x1, x2, res, rfl, ho, h, rfl, rfl⟩ := hg; exact Nat.le_of_ble_eq_true rfl) (fun As F r F' hg => by obtain ⟨o, x1, x2, res, rfl, ho, h, rfl, rfl⟩ := hg; exact fX10_slotsTo_ok o x1 x2 _ _ ho h ⟨rfl, rfl⟩)
theorem mcX10_slotsTo : Cond.code yX10_slotsTo cX10_slotsTo 5 (none) ∈ xw_T ∧ Cond.initialized yX10_slotsTo.cls ∈ xw_T ∧ Cond.instanceMethod yX10_slotsTo ∈ xw_T ∧ Cond.selects yX10_slotsTo.cls yX10_slotsTo yX10_slotsTo ∈ xw_T := ⟨(xinT 1538 (by decide +kernel) (by decide +kernel)), (xinT 127 (by decide +kernel) (by decide +kernel)), (xinT 1537 (by decide +kernel) (by decide +kernel)), (xinT 48 (by decide +kernel) (by decide +kernel))⟩
theorem clX10_133 {fr lo : Nat} (h1 : 5 + 1 ≤ fr) (h2 : 8 + (5 + 11) + 112 ≤ lo) : xCall RX10 fr lo 0 133 10 2 gX10_slotsTo := ⟨_, _, _, _, _, _, ctX10_slotsTo, h1, h2, mcX10_slotsTo.1, (xinT 1535 (by decide +kernel) (by decide +kernel)), mcX10_slotsTo.2.1, ⟨by decide +kernel, by decide +kernel, by decide +kernel⟩, by rw [if_pos rfl]; exact ⟨mcX10_slotsTo.2.2.1, mcX10_slotsTo.2.2.2, _, _, rfl⟩⟩
theorem dX10_houseLine_0 : decode cX10_houseLine 0 = .ok (.aload_n 0, 1) := by decide +kernel
theorem dX10_houseLine_1 : decode cX10_houseLine 1 = .ok (.getfield 17, 3) := by decide +kernel
theorem dX10_houseLine_4 : decode cX10_houseLine 4 = .ok (.iconst 5, 1) := by decide +kernel
theorem dX10_houseLine_5 : decode cX10_houseLine 5 = .ok (.iaload, 1) := by decide +kernel
theorem dX10_houseLine_6 : decode cX10_houseLine 6 = .ok (.bipush 8, 2) := by decide +kernel
theorem dX10_houseLine_8 : decode cX10_houseLine 8 = .ok (.if_icmp .ge 7, 3) := by decide +kernel
theorem dX10_houseLine_11 : decode cX10_houseLine 11 = .ok (.iconst 1, 1) := by decide +kernel
theorem dX10_houseLine_12 : decode cX10_houseLine 12 = .ok (.goto 4, 3) := by decide +kernel
theorem dX10_houseLine_15 : decode cX10_houseLine 15 = .ok (.iconst 0, 1) := by decide +kernel
theorem dX10_houseLine_16 : decode cX10_houseLine 16 = .ok (.istore_n 3, 1) := by decide +kernel
theorem dX10_houseLine_17 : decode cX10_houseLine 17 = .ok (.iload_n 3, 1) := by decide +kernel
theorem dX10_houseLine_18 : decode cX10_houseLine 18 = .ok (.ifCond .ne 9, 3) := by decide +kernel
theorem dX10_houseLine_21 : decode cX10_houseLine 21 = .ok (.aload_n 0, 1) := by decide +kernel
theorem dX10_houseLine_22 : decode cX10_houseLine 22 = .ok (.iconst 3, 1) := by decide +kernel
theorem dX10_houseLine_23 : decode cX10_houseLine 23 = .ok (.iload_n 2, 1) := by decide +kernel
theorem dX10_houseLine_24 : decode cX10_houseLine 24 = .ok (.invokevirtual 119, 3) := by decide +kernel
theorem dX10_houseLine_27 : decode cX10_houseLine 27 = .ok (.aload_n 0, 1) := by decide +kernel
theorem dX10_houseLine_28 : decode cX10_houseLine 28 = .ok (.iconst 0, 1) := by decide +kernel
theorem dX10_houseLine_29 : decode cX10_houseLine 29 = .ok (.bipush 99, 2) := by decide +kernel
theorem dX10_houseLine_31 : decode cX10_houseLine 31 = .ok (.invokevirtual 126, 3) := by decide +kernel
theorem dX10_houseLine_34 : decode cX10_houseLine 34 = .ok (.istore 4, 2) := by decide +kernel
theorem dX10_houseLine_36 : decode cX10_houseLine 36 = .ok (.aload_n 0, 1) := by decide +kernel
theorem dX10_houseLine_37 : decode cX10_houseLine 37 = .ok (.iconst 0, 1) := by decide +kernel
theorem dX10_houseLine_38 : decode cX10_houseLine 38 = .ok (.bipush 9, 2) := by decide +kernel
theorem dX10_houseLine_40 : decode cX10_houseLine 40 = .ok (.invokevirtual 126, 3) := by decide +kernel
theorem dX10_houseLine_43 : decode cX10_houseLine 43 = .ok (.istore 5, 2) := by decide +kernel
theorem dX10_houseLine_45 : decode cX10_houseLine 45 = .ok (.aload_n 0, 1) := by decide +kernel
theorem dX10_houseLine_46 : decode cX10_houseLine 46 = .ok (.iconst 0, 1) := by decide +kernel
theorem dX10_houseLine_47 : decode cX10_houseLine 47 = .ok (.bipush 9, 2) := by decide +kernel
theorem dX10_houseLine_49 : decode cX10_houseLine 49 = .ok (.invokevirtual 126, 3) := by decide +kernel
theorem dX10_houseLine_52 : decode cX10_houseLine 52 = .ok (.istore 6, 2) := by decide +kernel
theorem dX10_houseLine_54 : decode cX10_houseLine 54 = .ok (.iload_n 3, 1) := by decide +kernel
theorem dX10_houseLine_55 : decode cX10_houseLine 55 = .ok (.ifCond .ne 4, 3) := by decide +kernel
theorem dX10_houseLine_58 : decode cX10_houseLine 58 = .ok (.return_, 1) := by decide +kernel
theorem dX10_houseLine_59 : decode cX10_houseLine 59 = .ok (.bipush 8, 2) := by decide +kernel
theorem dX10_houseLine_61 : decode cX10_houseLine 61 = .ok (.iconst 4, 1) := by decide +kernel
theorem dX10_houseLine_62 : decode cX10_houseLine 62 = .ok (.aload_n 0, 1) := by decide +kernel
theorem dX10_houseLine_63 : decode cX10_houseLine 63 = .ok (.getfield 17, 3) := by decide +kernel
theorem dX10_houseLine_66 : decode cX10_houseLine 66 = .ok (.iconst 5, 1) := by decide +kernel
theorem dX10_houseLine_67 : decode cX10_houseLine 67 = .ok (.iaload, 1) := by decide +kernel
theorem dX10_houseLine_68 : decode cX10_houseLine 68 = .ok (.imul, 1) := by decide +kernel
theorem dX10_houseLine_69 : decode cX10_houseLine 69 = .ok (.iadd, 1) := by decide +kernel
theorem dX10_houseLine_70 : decode cX10_houseLine 70 = .ok (.istore 7, 2) := by decide +kernel
theorem dX10_houseLine_72 : decode cX10_houseLine 72 = .ok (.aload_n 0, 1) := by decide +kernel
theorem dX10_houseLine_73 : decode cX10_houseLine 73 = .ok (.getfield 17, 3) := by decide +kernel
theorem dX10_houseLine_76 : decode cX10_houseLine 76 = .ok (.iload 7, 2) := by decide +kernel
theorem dX10_houseLine_78 : decode cX10_houseLine 78 = .ok (.iload 4, 2) := by decide +kernel
theorem dX10_houseLine_80 : decode cX10_houseLine 80 = .ok (.iastore, 1) := by decide +kernel
theorem dX10_houseLine_81 : decode cX10_houseLine 81 = .ok (.aload_n 0, 1) := by decide +kernel
theorem dX10_houseLine_82 : decode cX10_houseLine 82 = .ok (.getfield 17, 3) := by decide +kernel
theorem dX10_houseLine_85 : decode cX10_houseLine 85 = .ok (.iload 7, 2) := by decide +kernel
theorem dX10_houseLine_87 : decode cX10_houseLine 87 = .ok (.iconst 1, 1) := by decide +kernel
theorem dX10_houseLine_88 : decode cX10_houseLine 88 = .ok (.iadd, 1) := by decide +kernel
theorem dX10_houseLine_89 : decode cX10_houseLine 89 = .ok (.iload_n 1, 1) := by decide +kernel
theorem dX10_houseLine_90 : decode cX10_houseLine 90 = .ok (.iastore, 1) := by decide +kernel
theorem dX10_houseLine_91 : decode cX10_houseLine 91 = .ok (.aload_n 0, 1) := by decide +kernel
theorem dX10_houseLine_92 : decode cX10_houseLine 92 = .ok (.getfield 17, 3) := by decide +kernel
theorem dX10_houseLine_95 : decode cX10_houseLine 95 = .ok (.iload 7, 2) := by decide +kernel
theorem dX10_houseLine_97 : decode cX10_houseLine 97 = .ok (.iconst 2, 1) := by decide +kernel
theorem dX10_houseLine_98 : decode cX10_houseLine 98 = .ok (.iadd, 1) := by decide +kernel
theorem dX10_houseLine_99 : decode cX10_houseLine 99 = .ok (.iload 5, 2) := by decide +kernel
theorem dX10_houseLine_101 : decode cX10_houseLine 101 = .ok (.iastore, 1) := by decide +kernel
theorem dX10_houseLine_102 : decode cX10_houseLine 102 = .ok (.aload_n 0, 1) := by decide +kernel
theorem dX10_houseLine_103 : decode cX10_houseLine 103 = .ok (.getfield 17, 3) := by decide +kernel
theorem dX10_houseLine_106 : decode cX10_houseLine 106 = .ok (.iload 7, 2) := by decide +kernel
theorem dX10_houseLine_108 : decode cX10_houseLine 108 = .ok (.iconst 3, 1) := by decide +kernel
theorem dX10_houseLine_109 : decode cX10_houseLine 109 = .ok (.iadd, 1) := by decide +kernel
theorem dX10_houseLine_110 : decode cX10_houseLine 110 = .ok (.iload 6, 2) := by decide +kernel
theorem dX10_houseLine_112 : decode cX10_houseLine 112 = .ok (.iastore, 1) := by decide +kernel
theorem dX10_houseLine_113 : decode cX10_houseLine 113 = .ok (.aload_n 0, 1) := by decide +kernel
theorem dX10_houseLine_114 : decode cX10_houseLine 114 = .ok (.getfield 17, 3) := by decide +kernel
theorem dX10_houseLine_117 : decode cX10_houseLine 117 = .ok (.iconst 5, 1) := by decide +kernel
theorem dX10_houseLine_118 : decode cX10_houseLine 118 = .ok (.dup2, 1) := by decide +kernel
theorem dX10_houseLine_119 : decode cX10_houseLine 119 = .ok (.iaload, 1) := by decide +kernel
theorem dX10_houseLine_120 : decode cX10_houseLine 120 = .ok (.iconst 1, 1) := by decide +kernel
theorem dX10_houseLine_121 : decode cX10_houseLine 121 = .ok (.iadd, 1) := by decide +kernel
theorem dX10_houseLine_122 : decode cX10_houseLine 122 = .ok (.iastore, 1) := by decide +kernel
theorem dX10_houseLine_123 : decode cX10_houseLine 123 = .ok (.return_, 1) := by decide +kernel
def zX10_houseLine (Qr : Option PV → Mem → Prop) : XZ := (RX10, 5, 112, 8, none, Qr)
noncomputable def fX10_houseLine_b27 (o : Nat) (x1 : Int) (x3 : Int) (F : Mem) : Option Mem :=
  (fX10_numbered o 0 99 F).bind fun q1 =>
  (fX10_numbered o 0 9 q1.2).bind fun q3 =>
  (fX10_numbered o 0 9 q3.2).bind fun q5 =>
  if x3 ≠ 0 then
    if (0 : Int) ≤ 5 ∧ 5 < (alen (o + 3) : Int) then
      if (0 : Int) ≤ (xw (8 + (xw (4 * (q5.2 (o + 3) 5))))) ∧ (xw (8 + (xw (4 * (q5.2 (o + 3) 5))))) < (alen (o + 3) : Int) then
        if (0 : Int) ≤ (xw ((xw (8 + (xw (4 * (q5.2 (o + 3) 5))))) + 1)) ∧ (xw ((xw (8 + (xw (4 * (q5.2 (o + 3) 5))))) + 1)) < (alen (o + 3) : Int) then
          if (0 : Int) ≤ (xw ((xw (8 + (xw (4 * (q5.2 (o + 3) 5))))) + 2)) ∧ (xw ((xw (8 + (xw (4 * (q5.2 (o + 3) 5))))) + 2)) < (alen (o + 3) : Int) then
            if (0 : Int) ≤ (xw ((xw (8 + (xw (4 * (q5.2 (o + 3) 5))))) + 3)) ∧ (xw ((xw (8 + (xw (4 * (q5.2 (o + 3) 5))))) + 3)) < (alen (o + 3) : Int) then
              if (0 : Int) ≤ 5 ∧ 5 < (alen (o + 3) : Int) then
                if (0 : Int) ≤ 5 ∧ 5 < (alen (o + 3) : Int) then
                  some (mset (mset (mset (mset (mset q5.2 (o + 3) (xw (8 + (xw (4 * (q5.2 (o + 3) 5))))).toNat q1.1) (o + 3) (xw ((xw (8 + (xw (4 * (q5.2 (o + 3) 5))))) + 1)).toNat x1) (o + 3) (xw ((xw (8 + (xw (4 * (q5.2 (o + 3) 5))))) + 2)).toNat q3.1) (o + 3) (xw ((xw (8 + (xw (4 * (q5.2 (o + 3) 5))))) + 3)).toNat q5.1) (o + 3) 5 (xw (((mset (mset (mset (mset q5.2 (o + 3) (xw (8 + (xw (4 * (q5.2 (o + 3) 5))))).toNat q1.1) (o + 3) (xw ((xw (8 + (xw (4 * (q5.2 (o + 3) 5))))) + 1)).toNat x1) (o + 3) (xw ((xw (8 + (xw (4 * (q5.2 (o + 3) 5))))) + 2)).toNat q3.1) (o + 3) (xw ((xw (8 + (xw (4 * (q5.2 (o + 3) 5))))) + 3)).toNat q5.1) (o + 3) 5) + 1)))
                else none
              else none
            else none
          else none
        else none
      else none
    else none
  else
    some q5.2
noncomputable def fX10_houseLine_b16 (o : Nat) (x1 : Int) (x2 : Int) (s0 : Int) (F : Mem) : Option Mem :=
  if s0 ≠ 0 then
    fX10_houseLine_b27 o x1 s0 F
  else
    (fX10_also o 3 x2 F).bind fun q2 =>
    fX10_houseLine_b27 o x1 s0 q2
noncomputable def fX10_houseLine (o : Nat) (x1 : Int) (x2 : Int) (F : Mem) : Option Mem :=
  if (0 : Int) ≤ 5 ∧ 5 < (alen (o + 3) : Int) then
    if 8 ≤ (F (o + 3) 5) then
      fX10_houseLine_b16 o x1 x2 0 F
    else
      fX10_houseLine_b16 o x1 x2 1 F
  else none
theorem fX10_houseLine_b27_ok {Qr : Option PV → Mem → Prop}  : ∀ (o : Nat) (x1 : Int) (x3 : Int) (F : Mem) (res : Mem) (ho : isK o 10), fX10_houseLine_b27 o x1 x3 F = some res → Qr none res → PR cX10_houseLine (zX10_houseLine Qr) 27 [(0, vR o), (1, vI x1), (3, vI x3)] [] F := by
  intro o x1 x3 F res ho h hq
  refine s_aload_n (j := 0) dX10_houseLine_27 rfl rfl ?_
  refine s_iconst dX10_houseLine_28 (cin rfl) ?_
  refine s_bipush dX10_houseLine_29 rfl (cin rfl) ?_
  obtain ⟨q1, hv2, h⟩ := bnd h
  refine s_callV (As := [vI 0, vI 99]) (rest := []) (r := (some (vI q1.1))) (F' := q1.2) dX10_houseLine_31 (clX10_126 (Nat.le_of_ble_eq_true rfl) (Nat.le_of_ble_eq_true rfl)) ho rfl ⟨_, _, _, _, rfl, ho, hv2, rfl, rfl⟩ rfl (Nat.le_of_ble_eq_true rfl) ?_
  refine s_istore (ls' := [(4, vI q1.1), (0, vR o), (1, vI x1), (3, vI x3)]) dX10_houseLine_34 (Nat.le_of_ble_eq_true rfl) rfl ?_
  refine s_aload_n (j := 1) dX10_houseLine_36 rfl rfl ?_
  refine s_iconst dX10_houseLine_37 (cin rfl) ?_
  refine s_bipush dX10_houseLine_38 rfl (cin rfl) ?_
  obtain ⟨q3, hv4, h⟩ := bnd h
  refine s_callV (As := [vI 0, vI 9]) (rest := []) (r := (some (vI q3.1))) (F' := q3.2) dX10_houseLine_40 (clX10_126 (Nat.le_of_ble_eq_true rfl) (Nat.le_of_ble_eq_true rfl)) ho rfl ⟨_, _, _, _, rfl, ho, hv4, rfl, rfl⟩ rfl (Nat.le_of_ble_eq_true rfl) ?_
  refine s_istore dX10_houseLine_43 (Nat.le_of_ble_eq_true rfl) rfl ?_
  refine s_aload_n (j := 2) dX10_houseLine_45 rfl rfl ?_
  refine s_iconst dX10_houseLine_46 (cin rfl) ?_
  refine s_bipush dX10_houseLine_47 rfl (cin rfl) ?_
  obtain ⟨q5, hv6, h⟩ := bnd h
  refine s_callV (As := [vI 0, vI 9]) (rest := []) (r := (some (vI q5.1))) (F' := q5.2) dX10_houseLine_49 (clX10_126 (Nat.le_of_ble_eq_true rfl) (Nat.le_of_ble_eq_true rfl)) ho rfl ⟨_, _, _, _, rfl, ho, hv6, rfl, rfl⟩ rfl (Nat.le_of_ble_eq_true rfl) ?_
  refine s_istore (ls' := [(6, vI q5.1), (5, vI q3.1), (4, vI q1.1), (0, vR o), (1, vI x1), (3, vI x3)]) dX10_houseLine_52 (Nat.le_of_ble_eq_true rfl) rfl ?_
  refine s_iload_n (j := 5) dX10_houseLine_54 rfl rfl ?_
  refine s_if_ne (tgt := 59) dX10_houseLine_55 rfl (fun hc7 => ?_) (fun hc7 => ?_)
  · have h := ifp hc7 h
    refine s_bipush dX10_houseLine_59 rfl (cin rfl) ?_
    refine s_iconst dX10_houseLine_61 (cin rfl) ?_
    refine s_aload_n (j := 3) dX10_houseLine_62 rfl rfl ?_
    refine s_getR dX10_houseLine_63 flX10_17 ho ?_
    refine s_iconst dX10_houseLine_66 (cin rfl) ?_
    obtain ⟨hb8, h⟩ := gd h
    refine s_iaload dX10_houseLine_67 (trX10_9 ho) hb8.1 hb8.2 ?_
    refine s_imul dX10_houseLine_68 ?_
    refine s_iadd dX10_houseLine_69 ?_
    refine s_istore (ls' := [(7, vI (xw (8 + (xw (4 * (q5.2 (o + 3) 5)))))), (6, vI q5.1), (5, vI q3.1), (4, vI q1.1), (0, vR o), (1, vI x1), (3, vI x3)]) dX10_houseLine_70 (Nat.le_of_ble_eq_true rfl) rfl ?_
    refine s_aload_n (j := 4) dX10_houseLine_72 rfl rfl ?_
    refine s_getR dX10_houseLine_73 flX10_17 ho ?_
    refine s_iload (j := 0) dX10_houseLine_76 rfl ?_
    refine s_iload (j := 3) dX10_houseLine_78 rfl ?_
    obtain ⟨hb9, h⟩ := gd h
    refine s_iastore dX10_houseLine_80 (trX10_9 ho) hb9.1 hb9.2 ?_
    refine s_aload_n (j := 4) dX10_houseLine_81 rfl rfl ?_
    refine s_getR dX10_houseLine_82 flX10_17 ho ?_
    refine s_iload (j := 0) dX10_houseLine_85 rfl ?_
    refine s_iconst dX10_houseLine_87 (cin rfl) ?_
    refine s_iadd dX10_houseLine_88 ?_
    refine s_iload_n (j := 5) dX10_houseLine_89 rfl rfl ?_
    obtain ⟨hb10, h⟩ := gd h
    refine s_iastore dX10_houseLine_90 (trX10_9 ho) hb10.1 hb10.2 ?_
    refine s_aload_n (j := 4) dX10_houseLine_91 rfl rfl ?_
    refine s_getR dX10_houseLine_92 flX10_17 ho ?_
    refine s_iload (j := 0) dX10_houseLine_95 rfl ?_
    refine s_iconst dX10_houseLine_97 (cin rfl) ?_
    refine s_iadd dX10_houseLine_98 ?_
    refine s_iload (j := 2) dX10_houseLine_99 rfl ?_
    obtain ⟨hb11, h⟩ := gd h
    refine s_iastore dX10_houseLine_101 (trX10_9 ho) hb11.1 hb11.2 ?_
    refine s_aload_n (j := 4) dX10_houseLine_102 rfl rfl ?_
    refine s_getR dX10_houseLine_103 flX10_17 ho ?_
    refine s_iload (j := 0) dX10_houseLine_106 rfl ?_
    refine s_iconst dX10_houseLine_108 (cin rfl) ?_
    refine s_iadd dX10_houseLine_109 ?_
    refine s_iload (j := 1) dX10_houseLine_110 rfl ?_
    obtain ⟨hb12, h⟩ := gd h
    refine s_iastore dX10_houseLine_112 (trX10_9 ho) hb12.1 hb12.2 ?_
    refine s_aload_n (j := 4) dX10_houseLine_113 rfl rfl ?_
    refine s_getR dX10_houseLine_114 flX10_17 ho ?_
    refine s_iconst dX10_houseLine_117 (cin rfl) ?_
    refine s_dup2 dX10_houseLine_118 rfl rfl ?_
    obtain ⟨hb13, h⟩ := gd h
    refine s_iaload dX10_houseLine_119 (trX10_9 ho) hb13.1 hb13.2 ?_
    refine s_iconst dX10_houseLine_120 (cin rfl) ?_
    refine s_iadd dX10_houseLine_121 ?_
    obtain ⟨hb14, h⟩ := gd h
    refine s_iastore dX10_houseLine_122 (trX10_9 ho) hb14.1 hb14.2 ?_
    have h := Option.some.inj h
    subst h
    exact s_return dX10_houseLine_123 rfl hq
  · have h := ifn hc7 h
    have h := Option.some.inj h
    subst h
    exact s_return dX10_houseLine_58 rfl hq
theorem fX10_houseLine_b16_ok {Qr : Option PV → Mem → Prop}  : ∀ (o : Nat) (x1 : Int) (x2 : Int) (s0 : Int) (F : Mem) (res : Mem) (ho : isK o 10), fX10_houseLine_b16 o x1 x2 s0 F = some res → Qr none res → PR cX10_houseLine (zX10_houseLine Qr) 16 [(0, vR o), (1, vI x1), (2, vI x2)] [vI s0] F := by
  intro o x1 x2 s0 F res ho h hq
  refine s_istore_n (ls' := [(3, vI s0), (0, vR o), (1, vI x1), (2, vI x2)]) dX10_houseLine_16 rfl (Nat.le_of_ble_eq_true rfl) rfl ?_
  refine s_iload_n (j := 0) dX10_houseLine_17 rfl rfl ?_
  refine s_if_ne (tgt := 27) dX10_houseLine_18 rfl (fun hc1 => ?_) (fun hc1 => ?_)
  · have h := ifp hc1 h
    exact s_sub (ks := [1, 2, 0]) rfl (fX10_houseLine_b27_ok o x1 s0 F _ ho h hq)
  · have h := ifn hc1 h
    refine s_aload_n (j := 1) dX10_houseLine_21 rfl rfl ?_
    refine s_iconst dX10_houseLine_22 (cin rfl) ?_
    refine s_iload_n (j := 3) dX10_houseLine_23 rfl rfl ?_
    obtain ⟨q2, hv3, h⟩ := bnd h
    refine s_callV (As := [vI 3, vI x2]) (rest := []) (r := none) (F' := q2) dX10_houseLine_24 (clX10_119 (Nat.le_of_ble_eq_true rfl) (Nat.le_of_ble_eq_true rfl)) ho rfl ⟨_, _, _, _, rfl, ho, hv3, rfl, rfl⟩ rfl (Nat.le_of_ble_eq_true rfl) ?_
    exact s_sub (ks := [1, 2, 0]) rfl (fX10_houseLine_b27_ok o x1 s0 q2 _ ho h hq)
theorem fX10_houseLine_ok {Qr : Option PV → Mem → Prop} : ∀ (o : Nat) (x1 : Int) (x2 : Int) (F : Mem) (res : Mem) (ho : isK o 10), fX10_houseLine o x1 x2 F = some res → Qr none res → PR cX10_houseLine (zX10_houseLine Qr) 0 [(0, vR o), (1, vI x1), (2, vI x2)] [] F := by
  intro o x1 x2 F res ho h hq
  refine s_aload_n (j := 0) dX10_houseLine_0 rfl rfl ?_
  refine s_getR dX10_houseLine_1 flX10_17 ho ?_
  refine s_iconst dX10_houseLine_4 (cin rfl) ?_
  obtain ⟨hb1, h⟩ := gd h
  refine s_iaload dX10_houseLine_5 (trX10_9 ho) hb1.1 hb1.2 ?_
  refine s_bipush dX10_houseLine_6 rfl (cin rfl) ?_
  refine s_icmp_ge (tgt := 15) dX10_houseLine_8 rfl (fun hc2 => ?_) (fun hc2 => ?_)
  · have h := ifp hc2 h
    refine s_iconst dX10_houseLine_15 (cin rfl) ?_
    exact s_sub (ks := [0, 1, 2]) rfl (fX10_houseLine_b16_ok o x1 x2 0 F _ ho h hq)
  · have h := ifn hc2 h
    refine s_iconst dX10_houseLine_11 (cin rfl) ?_
    refine s_goto (tgt := 16) dX10_houseLine_12 rfl ?_
    exact s_sub (ks := [0, 1, 2]) rfl (fX10_houseLine_b16_ok o x1 x2 1 F _ ho h hq)
def gX10_houseLine : XG := fun As F r F' => ∃ o : Nat, ∃ x1 : Int, ∃ x2 : Int, ∃ res : Mem, As = [vR o, vI x1, vI x2] ∧ isK o 10 ∧ fX10_houseLine o x1 x2 F = some res ∧ r = none ∧ F' = res
theorem ctX10_houseLine : xCT yX10_houseLine cX10_houseLine 8 (none) 5 112 gX10_houseLine := xmet (by decide +kernel) (fun As F r F' hg => by obtain ⟨o, x1, x2, res, rfl, ho, h, rfl, rfl⟩ := hg; exact Nat.le_of_ble_eq_true rfl) (fun As F r F' hg => by obtain ⟨o, x1, x2, res, rfl, ho, h, rfl, rfl⟩ := hg; exact fX10_houseLine_ok o x1 x2 _ _ ho h ⟨rfl, rfl⟩)
theorem mcX10_houseLine : Cond.code yX10_houseLine cX10_houseLine 8 (none) ∈ xw_T ∧ Cond.initialized yX10_houseLine.cls ∈ xw_T ∧ Cond.instanceMethod yX10_houseLine ∈ xw_T ∧ Cond.selects yX10_houseLine.cls yX10_houseLine yX10_houseLine ∈ xw_T := ⟨(xinT 1542 (by decide +kernel) (by decide +kernel)), (xinT 127 (by decide +kernel) (by decide +kernel)), (xinT 1541 (by decide +kernel) (by decide +kernel)), (xinT 49 (by decide +kernel) (by decide +kernel))⟩
theorem clX10_137 {fr lo : Nat} (h1 : 5 + 1 ≤ fr) (h2 : 8 + (8 + 11) + 112 ≤ lo) : xCall RX10 fr lo 0 137 10 2 gX10_houseLine := ⟨_, _, _, _, _, _, ctX10_houseLine, h1, h2, mcX10_houseLine.1, (xinT 1539 (by decide +kernel) (by decide +kernel)), mcX10_houseLine.2.1, ⟨by decide +kernel, by decide +kernel, by decide +kernel⟩, by rw [if_pos rfl]; exact ⟨mcX10_houseLine.2.2.1, mcX10_houseLine.2.2.2, _, _, rfl⟩⟩
theorem dX10_valleyLine_0 : decode cX10_valleyLine 0 = .ok (.aload_n 0, 1) := by decide +kernel
theorem dX10_valleyLine_1 : decode cX10_valleyLine 1 = .ok (.getfield 87, 3) := by decide +kernel
theorem dX10_valleyLine_4 : decode cX10_valleyLine 4 = .ok (.istore_n 1, 1) := by decide +kernel
theorem dX10_valleyLine_5 : decode cX10_valleyLine 5 = .ok (.aload_n 0, 1) := by decide +kernel
theorem dX10_valleyLine_6 : decode cX10_valleyLine 6 = .ok (.iconst 1, 1) := by decide +kernel
theorem dX10_valleyLine_7 : decode cX10_valleyLine 7 = .ok (.bipush 9, 2) := by decide +kernel
theorem dX10_valleyLine_9 : decode cX10_valleyLine 9 = .ok (.invokevirtual 130, 3) := by decide +kernel
theorem dX10_valleyLine_12 : decode cX10_valleyLine 12 = .ok (.istore_n 2, 1) := by decide +kernel
theorem dX10_valleyLine_13 : decode cX10_valleyLine 13 = .ok (.iload_n 2, 1) := by decide +kernel
theorem dX10_valleyLine_14 : decode cX10_valleyLine 14 = .ok (.iconst 1, 1) := by decide +kernel
theorem dX10_valleyLine_15 : decode cX10_valleyLine 15 = .ok (.if_icmp .ne 16, 3) := by decide +kernel
theorem dX10_valleyLine_18 : decode cX10_valleyLine 18 = .ok (.aload_n 0, 1) := by decide +kernel
theorem dX10_valleyLine_19 : decode cX10_valleyLine 19 = .ok (.getfield 17, 3) := by decide +kernel
theorem dX10_valleyLine_22 : decode cX10_valleyLine 22 = .ok (.iconst 0, 1) := by decide +kernel
theorem dX10_valleyLine_23 : decode cX10_valleyLine 23 = .ok (.aload_n 0, 1) := by decide +kernel
theorem dX10_valleyLine_24 : decode cX10_valleyLine 24 = .ok (.iconst 1, 1) := by decide +kernel
theorem dX10_valleyLine_25 : decode cX10_valleyLine 25 = .ok (.bipush 48, 2) := by decide +kernel
theorem dX10_valleyLine_27 : decode cX10_valleyLine 27 = .ok (.invokevirtual 126, 3) := by decide +kernel
theorem dX10_valleyLine_30 : decode cX10_valleyLine 30 = .ok (.iastore, 1) := by decide +kernel
theorem dX10_valleyLine_31 : decode cX10_valleyLine 31 = .ok (.iload_n 2, 1) := by decide +kernel
theorem dX10_valleyLine_32 : decode cX10_valleyLine 32 = .ok (.iconst 2, 1) := by decide +kernel
theorem dX10_valleyLine_33 : decode cX10_valleyLine 33 = .ok (.if_icmp .ne 16, 3) := by decide +kernel
theorem dX10_valleyLine_36 : decode cX10_valleyLine 36 = .ok (.aload_n 0, 1) := by decide +kernel
theorem dX10_valleyLine_37 : decode cX10_valleyLine 37 = .ok (.getfield 17, 3) := by decide +kernel
theorem dX10_valleyLine_40 : decode cX10_valleyLine 40 = .ok (.iconst 1, 1) := by decide +kernel
theorem dX10_valleyLine_41 : decode cX10_valleyLine 41 = .ok (.aload_n 0, 1) := by decide +kernel
theorem dX10_valleyLine_42 : decode cX10_valleyLine 42 = .ok (.iconst 1, 1) := by decide +kernel
theorem dX10_valleyLine_43 : decode cX10_valleyLine 43 = .ok (.bipush 99, 2) := by decide +kernel
theorem dX10_valleyLine_45 : decode cX10_valleyLine 45 = .ok (.invokevirtual 126, 3) := by decide +kernel
theorem dX10_valleyLine_48 : decode cX10_valleyLine 48 = .ok (.iastore, 1) := by decide +kernel
theorem dX10_valleyLine_49 : decode cX10_valleyLine 49 = .ok (.iload_n 2, 1) := by decide +kernel
theorem dX10_valleyLine_50 : decode cX10_valleyLine 50 = .ok (.iconst 3, 1) := by decide +kernel
theorem dX10_valleyLine_51 : decode cX10_valleyLine 51 = .ok (.if_icmp .ne 9, 3) := by decide +kernel
theorem dX10_valleyLine_54 : decode cX10_valleyLine 54 = .ok (.aload_n 0, 1) := by decide +kernel
theorem dX10_valleyLine_55 : decode cX10_valleyLine 55 = .ok (.iconst 2, 1) := by decide +kernel
theorem dX10_valleyLine_56 : decode cX10_valleyLine 56 = .ok (.iconst 1, 1) := by decide +kernel
theorem dX10_valleyLine_57 : decode cX10_valleyLine 57 = .ok (.invokevirtual 133, 3) := by decide +kernel
theorem dX10_valleyLine_60 : decode cX10_valleyLine 60 = .ok (.iload_n 2, 1) := by decide +kernel
theorem dX10_valleyLine_61 : decode cX10_valleyLine 61 = .ok (.iconst 4, 1) := by decide +kernel
theorem dX10_valleyLine_62 : decode cX10_valleyLine 62 = .ok (.if_icmp .ne 16, 3) := by decide +kernel
theorem dX10_valleyLine_65 : decode cX10_valleyLine 65 = .ok (.aload_n 0, 1) := by decide +kernel
theorem dX10_valleyLine_66 : decode cX10_valleyLine 66 = .ok (.getfield 17, 3) := by decide +kernel
theorem dX10_valleyLine_69 : decode cX10_valleyLine 69 = .ok (.iconst 4, 1) := by decide +kernel
theorem dX10_valleyLine_70 : decode cX10_valleyLine 70 = .ok (.aload_n 0, 1) := by decide +kernel
theorem dX10_valleyLine_71 : decode cX10_valleyLine 71 = .ok (.iconst 0, 1) := by decide +kernel
theorem dX10_valleyLine_72 : decode cX10_valleyLine 72 = .ok (.bipush 7, 2) := by decide +kernel
theorem dX10_valleyLine_74 : decode cX10_valleyLine 74 = .ok (.invokevirtual 126, 3) := by decide +kernel
theorem dX10_valleyLine_77 : decode cX10_valleyLine 77 = .ok (.iastore, 1) := by decide +kernel
theorem dX10_valleyLine_78 : decode cX10_valleyLine 78 = .ok (.iload_n 2, 1) := by decide +kernel
theorem dX10_valleyLine_79 : decode cX10_valleyLine 79 = .ok (.iconst 5, 1) := by decide +kernel
theorem dX10_valleyLine_80 : decode cX10_valleyLine 80 = .ok (.bipush 8, 2) := by decide +kernel
theorem dX10_valleyLine_82 : decode cX10_valleyLine 82 = .ok (.invokestatic 115, 3) := by decide +kernel
theorem dX10_valleyLine_85 : decode cX10_valleyLine 85 = .ok (.ifCond .eq 11, 3) := by decide +kernel
theorem dX10_valleyLine_88 : decode cX10_valleyLine 88 = .ok (.aload_n 0, 1) := by decide +kernel
theorem dX10_valleyLine_89 : decode cX10_valleyLine 89 = .ok (.iload_n 2, 1) := by decide +kernel
theorem dX10_valleyLine_90 : decode cX10_valleyLine 90 = .ok (.iconst 5, 1) := by decide +kernel
theorem dX10_valleyLine_91 : decode cX10_valleyLine 91 = .ok (.isub, 1) := by decide +kernel
theorem dX10_valleyLine_92 : decode cX10_valleyLine 92 = .ok (.iload_n 1, 1) := by decide +kernel
theorem dX10_valleyLine_93 : decode cX10_valleyLine 93 = .ok (.invokevirtual 137, 3) := by decide +kernel
theorem dX10_valleyLine_96 : decode cX10_valleyLine 96 = .ok (.iload_n 2, 1) := by decide +kernel
theorem dX10_valleyLine_97 : decode cX10_valleyLine 97 = .ok (.bipush 9, 2) := by decide +kernel
theorem dX10_valleyLine_99 : decode cX10_valleyLine 99 = .ok (.if_icmp .ne 103, 3) := by decide +kernel
theorem dX10_valleyLine_102 : decode cX10_valleyLine 102 = .ok (.aload_n 0, 1) := by decide +kernel
theorem dX10_valleyLine_103 : decode cX10_valleyLine 103 = .ok (.getfield 17, 3) := by decide +kernel
theorem dX10_valleyLine_106 : decode cX10_valleyLine 106 = .ok (.bipush 6, 2) := by decide +kernel
theorem dX10_valleyLine_108 : decode cX10_valleyLine 108 = .ok (.iaload, 1) := by decide +kernel
theorem dX10_valleyLine_109 : decode cX10_valleyLine 109 = .ok (.bipush 6, 2) := by decide +kernel
theorem dX10_valleyLine_111 : decode cX10_valleyLine 111 = .ok (.if_icmp .ge 7, 3) := by decide +kernel
theorem dX10_valleyLine_114 : decode cX10_valleyLine 114 = .ok (.iconst 1, 1) := by decide +kernel
theorem dX10_valleyLine_115 : decode cX10_valleyLine 115 = .ok (.goto 4, 3) := by decide +kernel
theorem dX10_valleyLine_118 : decode cX10_valleyLine 118 = .ok (.iconst 0, 1) := by decide +kernel
theorem dX10_valleyLine_119 : decode cX10_valleyLine 119 = .ok (.istore_n 3, 1) := by decide +kernel
theorem dX10_valleyLine_120 : decode cX10_valleyLine 120 = .ok (.iload_n 3, 1) := by decide +kernel
theorem dX10_valleyLine_121 : decode cX10_valleyLine 121 = .ok (.ifCond .ne 9, 3) := by decide +kernel
theorem dX10_valleyLine_124 : decode cX10_valleyLine 124 = .ok (.aload_n 0, 1) := by decide +kernel
theorem dX10_valleyLine_125 : decode cX10_valleyLine 125 = .ok (.iconst 3, 1) := by decide +kernel
theorem dX10_valleyLine_126 : decode cX10_valleyLine 126 = .ok (.iload_n 1, 1) := by decide +kernel
theorem dX10_valleyLine_127 : decode cX10_valleyLine 127 = .ok (.invokevirtual 119, 3) := by decide +kernel
theorem dX10_valleyLine_130 : decode cX10_valleyLine 130 = .ok (.bipush 40, 2) := by decide +kernel
theorem dX10_valleyLine_132 : decode cX10_valleyLine 132 = .ok (.iconst 3, 1) := by decide +kernel
theorem dX10_valleyLine_133 : decode cX10_valleyLine 133 = .ok (.iload_n 3, 1) := by decide +kernel
theorem dX10_valleyLine_134 : decode cX10_valleyLine 134 = .ok (.ifCond .eq 13, 3) := by decide +kernel
theorem dX10_valleyLine_137 : decode cX10_valleyLine 137 = .ok (.aload_n 0, 1) := by decide +kernel
theorem dX10_valleyLine_138 : decode cX10_valleyLine 138 = .ok (.getfield 17, 3) := by decide +kernel
theorem dX10_valleyLine_141 : decode cX10_valleyLine 141 = .ok (.bipush 6, 2) := by decide +kernel
theorem dX10_valleyLine_143 : decode cX10_valleyLine 143 = .ok (.iaload, 1) := by decide +kernel
theorem dX10_valleyLine_144 : decode cX10_valleyLine 144 = .ok (.goto 4, 3) := by decide +kernel
theorem dX10_valleyLine_147 : decode cX10_valleyLine 147 = .ok (.iconst 0, 1) := by decide +kernel
theorem dX10_valleyLine_148 : decode cX10_valleyLine 148 = .ok (.imul, 1) := by decide +kernel
theorem dX10_valleyLine_149 : decode cX10_valleyLine 149 = .ok (.iadd, 1) := by decide +kernel
theorem dX10_valleyLine_150 : decode cX10_valleyLine 150 = .ok (.istore 4, 2) := by decide +kernel
theorem dX10_valleyLine_152 : decode cX10_valleyLine 152 = .ok (.aload_n 0, 1) := by decide +kernel
theorem dX10_valleyLine_153 : decode cX10_valleyLine 153 = .ok (.iconst 0, 1) := by decide +kernel
theorem dX10_valleyLine_154 : decode cX10_valleyLine 154 = .ok (.bipush 7, 2) := by decide +kernel
theorem dX10_valleyLine_156 : decode cX10_valleyLine 156 = .ok (.invokevirtual 126, 3) := by decide +kernel
theorem dX10_valleyLine_159 : decode cX10_valleyLine 159 = .ok (.istore 5, 2) := by decide +kernel
theorem dX10_valleyLine_161 : decode cX10_valleyLine 161 = .ok (.iload_n 3, 1) := by decide +kernel
theorem dX10_valleyLine_162 : decode cX10_valleyLine 162 = .ok (.ifCond .eq 12, 3) := by decide +kernel
theorem dX10_valleyLine_165 : decode cX10_valleyLine 165 = .ok (.aload_n 0, 1) := by decide +kernel
theorem dX10_valleyLine_166 : decode cX10_valleyLine 166 = .ok (.getfield 17, 3) := by decide +kernel
theorem dX10_valleyLine_169 : decode cX10_valleyLine 169 = .ok (.iload 4, 2) := by decide +kernel
theorem dX10_valleyLine_171 : decode cX10_valleyLine 171 = .ok (.iload 5, 2) := by decide +kernel
theorem dX10_valleyLine_173 : decode cX10_valleyLine 173 = .ok (.iastore, 1) := by decide +kernel
theorem dX10_valleyLine_174 : decode cX10_valleyLine 174 = .ok (.aload_n 0, 1) := by decide +kernel
theorem dX10_valleyLine_175 : decode cX10_valleyLine 175 = .ok (.iload 4, 2) := by decide +kernel
theorem dX10_valleyLine_177 : decode cX10_valleyLine 177 = .ok (.iconst 1, 1) := by decide +kernel
theorem dX10_valleyLine_178 : decode cX10_valleyLine 178 = .ok (.iadd, 1) := by decide +kernel
theorem dX10_valleyLine_179 : decode cX10_valleyLine 179 = .ok (.iload_n 3, 1) := by decide +kernel
theorem dX10_valleyLine_180 : decode cX10_valleyLine 180 = .ok (.invokevirtual 133, 3) := by decide +kernel
theorem dX10_valleyLine_183 : decode cX10_valleyLine 183 = .ok (.aload_n 0, 1) := by decide +kernel
theorem dX10_valleyLine_184 : decode cX10_valleyLine 184 = .ok (.getfield 17, 3) := by decide +kernel
theorem dX10_valleyLine_187 : decode cX10_valleyLine 187 = .ok (.bipush 6, 2) := by decide +kernel
theorem dX10_valleyLine_189 : decode cX10_valleyLine 189 = .ok (.dup2, 1) := by decide +kernel
theorem dX10_valleyLine_190 : decode cX10_valleyLine 190 = .ok (.iaload, 1) := by decide +kernel
theorem dX10_valleyLine_191 : decode cX10_valleyLine 191 = .ok (.iload_n 3, 1) := by decide +kernel
theorem dX10_valleyLine_192 : decode cX10_valleyLine 192 = .ok (.ifCond .eq 7, 3) := by decide +kernel
theorem dX10_valleyLine_195 : decode cX10_valleyLine 195 = .ok (.iconst 1, 1) := by decide +kernel
theorem dX10_valleyLine_196 : decode cX10_valleyLine 196 = .ok (.goto 4, 3) := by decide +kernel
theorem dX10_valleyLine_199 : decode cX10_valleyLine 199 = .ok (.iconst 0, 1) := by decide +kernel
theorem dX10_valleyLine_200 : decode cX10_valleyLine 200 = .ok (.iadd, 1) := by decide +kernel
theorem dX10_valleyLine_201 : decode cX10_valleyLine 201 = .ok (.iastore, 1) := by decide +kernel
theorem dX10_valleyLine_202 : decode cX10_valleyLine 202 = .ok (.aload_n 0, 1) := by decide +kernel
theorem dX10_valleyLine_203 : decode cX10_valleyLine 203 = .ok (.invokevirtual 140, 3) := by decide +kernel
theorem dX10_valleyLine_206 : decode cX10_valleyLine 206 = .ok (.return_, 1) := by decide +kernel
def zX10_valleyLine (Qr : Option PV → Mem → Prop) : XZ := (RX10, 6, 139, 6, none, Qr)
noncomputable def fX10_valleyLine_b202 (o : Nat) (F : Mem) : Option Mem :=
  (fX10_endsLine o F).bind fun q1 =>
  some q1
noncomputable def fX10_valleyLine_b174 (o : Nat) (x3 : Int) (x4 : Int) (F : Mem) : Option Mem :=
  (fX10_slotsTo o (xw (x4 + 1)) x3 F).bind fun q1 =>
  if (0 : Int) ≤ 6 ∧ 6 < (alen (o + 3) : Int) then
    if x3 = 0 then
      if (0 : Int) ≤ 6 ∧ 6 < (alen (o + 3) : Int) then
        fX10_valleyLine_b202 o (mset q1 (o + 3) 6 (xw ((q1 (o + 3) 6) + 0)))
      else none
    else
      if (0 : Int) ≤ 6 ∧ 6 < (alen (o + 3) : Int) then
        fX10_valleyLine_b202 o (mset q1 (o + 3) 6 (xw ((q1 (o + 3) 6) + 1)))
      else none
  else none
noncomputable def fX10_valleyLine_b148 (o : Nat) (x3 : Int) (s0 : Int) (s1 : Int) (s2 : Int) (F : Mem) : Option Mem :=
  (fX10_numbered o 0 7 F).bind fun q1 =>
  if x3 = 0 then
    fX10_valleyLine_b174 o x3 (xw (s0 + (xw (s1 * s2)))) q1.2
  else
    if (0 : Int) ≤ (xw (s0 + (xw (s1 * s2)))) ∧ (xw (s0 + (xw (s1 * s2)))) < (alen (o + 3) : Int) then
      fX10_valleyLine_b174 o x3 (xw (s0 + (xw (s1 * s2)))) (mset q1.2 (o + 3) (xw (s0 + (xw (s1 * s2)))).toNat q1.1)
    else none
noncomputable def fX10_valleyLine_b130 (o : Nat) (x3 : Int) (F : Mem) : Option Mem :=
  if x3 = 0 then
    fX10_valleyLine_b148 o x3 40 3 0 F
  else
    if (0 : Int) ≤ 6 ∧ 6 < (alen (o + 3) : Int) then
      fX10_valleyLine_b148 o x3 40 3 (F (o + 3) 6) F
    else none
noncomputable def fX10_valleyLine_b119 (o : Nat) (x1 : Int) (s0 : Int) (F : Mem) : Option Mem :=
  if s0 ≠ 0 then
    fX10_valleyLine_b130 o s0 F
  else
    (fX10_also o 3 x1 F).bind fun q2 =>
    fX10_valleyLine_b130 o s0 q2
noncomputable def fX10_valleyLine_b96 (o : Nat) (x1 : Int) (x2 : Int) (F : Mem) : Option Mem :=
  if x2 ≠ 9 then
    fX10_valleyLine_b202 o F
  else
    if (0 : Int) ≤ 6 ∧ 6 < (alen (o + 3) : Int) then
      if 6 ≤ (F (o + 3) 6) then
        fX10_valleyLine_b119 o x1 0 F
      else
        fX10_valleyLine_b119 o x1 1 F
    else none
noncomputable def fX10_valleyLine_b78 (o : Nat) (x1 : Int) (x2 : Int) (F : Mem) : Option Mem :=
  if (fX10_isIn x2 5 8) = 0 then
    fX10_valleyLine_b96 o x1 x2 F
  else
    (fX10_houseLine o (xw (x2 - 5)) x1 F).bind fun q2 =>
    fX10_valleyLine_b96 o x1 x2 q2
noncomputable def fX10_valleyLine_b60 (o : Nat) (x1 : Int) (x2 : Int) (F : Mem) : Option Mem :=
  if x2 ≠ 4 then
    fX10_valleyLine_b78 o x1 x2 F
  else
    (fX10_numbered o 0 7 F).bind fun q2 =>
    if (0 : Int) ≤ 4 ∧ 4 < (alen (o + 3) : Int) then
      fX10_valleyLine_b78 o x1 x2 (mset q2.2 (o + 3) 4 q2.1)
    else none
noncomputable def fX10_valleyLine_b49 (o : Nat) (x1 : Int) (x2 : Int) (F : Mem) : Option Mem :=
  if x2 ≠ 3 then
    fX10_valleyLine_b60 o x1 x2 F
  else
    (fX10_slotsTo o 2 1 F).bind fun q2 =>
    fX10_valleyLine_b60 o x1 x2 q2
noncomputable def fX10_valleyLine_b31 (o : Nat) (x1 : Int) (x2 : Int) (F : Mem) : Option Mem :=
  if x2 ≠ 2 then
    fX10_valleyLine_b49 o x1 x2 F
  else
    (fX10_numbered o 1 99 F).bind fun q2 =>
    if (0 : Int) ≤ 1 ∧ 1 < (alen (o + 3) : Int) then
      fX10_valleyLine_b49 o x1 x2 (mset q2.2 (o + 3) 1 q2.1)
    else none
noncomputable def fX10_valleyLine (o : Nat) (F : Mem) : Option Mem :=
  (fX10_takes o 1 9 F).bind fun q1 =>
  if q1.1 ≠ 1 then
    fX10_valleyLine_b31 o (F o 4) q1.1 q1.2
  else
    (fX10_numbered o 1 48 q1.2).bind fun q4 =>
    if (0 : Int) ≤ 0 ∧ 0 < (alen (o + 3) : Int) then
      fX10_valleyLine_b31 o (F o 4) q1.1 (mset q4.2 (o + 3) 0 q4.1)
    else none
theorem fX10_valleyLine_b202_ok {Qr : Option PV → Mem → Prop}  : ∀ (o : Nat) (F : Mem) (res : Mem) (ho : isK o 10), fX10_valleyLine_b202 o F = some res → Qr none res → PR cX10_valleyLine (zX10_valleyLine Qr) 202 [(0, vR o)] [] F := by
  intro o F res ho h hq
  refine s_aload_n (j := 0) dX10_valleyLine_202 rfl rfl ?_
  obtain ⟨q1, hv2, h⟩ := bnd h
  refine s_callV (As := []) (rest := []) (r := none) (F' := q1) dX10_valleyLine_203 (clX10_140 (Nat.le_of_ble_eq_true rfl) (Nat.le_of_ble_eq_true rfl)) ho rfl ⟨_, _, rfl, ho, hv2, rfl, rfl⟩ rfl (Nat.le_of_ble_eq_true rfl) ?_
  have h := Option.some.inj h
  subst h
  exact s_return dX10_valleyLine_206 rfl hq
theorem fX10_valleyLine_b174_ok {Qr : Option PV → Mem → Prop}  : ∀ (o : Nat) (x3 : Int) (x4 : Int) (F : Mem) (res : Mem) (ho : isK o 10), fX10_valleyLine_b174 o x3 x4 F = some res → Qr none res → PR cX10_valleyLine (zX10_valleyLine Qr) 174 [(0, vR o), (3, vI x3), (4, vI x4)] [] F := by
  intro o x3 x4 F res ho h hq
  refine s_aload_n (j := 0) dX10_valleyLine_174 rfl rfl ?_
  refine s_iload (j := 2) dX10_valleyLine_175 rfl ?_
  refine s_iconst dX10_valleyLine_177 (cin rfl) ?_
  refine s_iadd dX10_valleyLine_178 ?_
  refine s_iload_n (j := 1) dX10_valleyLine_179 rfl rfl ?_
  obtain ⟨q1, hv2, h⟩ := bnd h
  refine s_callV (As := [vI (xw (x4 + 1)), vI x3]) (rest := []) (r := none) (F' := q1) dX10_valleyLine_180 (clX10_133 (Nat.le_of_ble_eq_true rfl) (Nat.le_of_ble_eq_true rfl)) ho rfl ⟨_, _, _, _, rfl, ho, hv2, rfl, rfl⟩ rfl (Nat.le_of_ble_eq_true rfl) ?_
  refine s_aload_n (j := 0) dX10_valleyLine_183 rfl rfl ?_
  refine s_getR dX10_valleyLine_184 flX10_17 ho ?_
  refine s_bipush dX10_valleyLine_187 rfl (cin rfl) ?_
  refine s_dup2 dX10_valleyLine_189 rfl rfl ?_
  obtain ⟨hb3, h⟩ := gd h
  refine s_iaload dX10_valleyLine_190 (trX10_9 ho) hb3.1 hb3.2 ?_
  refine s_iload_n (j := 1) dX10_valleyLine_191 rfl rfl ?_
  refine s_if_eq (tgt := 199) dX10_valleyLine_192 rfl (fun hc4 => ?_) (fun hc4 => ?_)
  · have h := ifp hc4 h
    refine s_iconst dX10_valleyLine_199 (cin rfl) ?_
    refine s_iadd dX10_valleyLine_200 ?_
    obtain ⟨hb5, h⟩ := gd h
    refine s_iastore dX10_valleyLine_201 (trX10_9 ho) hb5.1 hb5.2 ?_
    exact s_sub (ks := [0]) rfl (fX10_valleyLine_b202_ok o (mset q1 (o + 3) 6 (xw ((q1 (o + 3) 6) + 0))) _ ho h hq)
  · have h := ifn hc4 h
    refine s_iconst dX10_valleyLine_195 (cin rfl) ?_
    refine s_goto (tgt := 200) dX10_valleyLine_196 rfl ?_
    refine s_iadd dX10_valleyLine_200 ?_
    obtain ⟨hb6, h⟩ := gd h
    refine s_iastore dX10_valleyLine_201 (trX10_9 ho) hb6.1 hb6.2 ?_
    exact s_sub (ks := [0]) rfl (fX10_valleyLine_b202_ok o (mset q1 (o + 3) 6 (xw ((q1 (o + 3) 6) + 1))) _ ho h hq)
theorem fX10_valleyLine_b148_ok {Qr : Option PV → Mem → Prop}  : ∀ (o : Nat) (x3 : Int) (s0 : Int) (s1 : Int) (s2 : Int) (F : Mem) (res : Mem) (ho : isK o 10), fX10_valleyLine_b148 o x3 s0 s1 s2 F = some res → Qr none res → PR cX10_valleyLine (zX10_valleyLine Qr) 148 [(0, vR o), (3, vI x3)] [vI s2, vI s1, vI s0] F := by
  intro o x3 s0 s1 s2 F res ho h hq
  refine s_imul dX10_valleyLine_148 ?_
  refine s_iadd dX10_valleyLine_149 ?_
  refine s_istore (ls' := [(4, vI (xw (s0 + (xw (s1 * s2))))), (0, vR o), (3, vI x3)]) dX10_valleyLine_150 (Nat.le_of_ble_eq_true rfl) rfl ?_
  refine s_aload_n (j := 1) dX10_valleyLine_152 rfl rfl ?_
  refine s_iconst dX10_valleyLine_153 (cin rfl) ?_
  refine s_bipush dX10_valleyLine_154 rfl (cin rfl) ?_
  obtain ⟨q1, hv2, h⟩ := bnd h
  refine s_callV (As := [vI 0, vI 7]) (rest := []) (r := (some (vI q1.1))) (F' := q1.2) dX10_valleyLine_156 (clX10_126 (Nat.le_of_ble_eq_true rfl) (Nat.le_of_ble_eq_true rfl)) ho rfl ⟨_, _, _, _, rfl, ho, hv2, rfl, rfl⟩ rfl (Nat.le_of_ble_eq_true rfl) ?_
  refine s_istore dX10_valleyLine_159 (Nat.le_of_ble_eq_true rfl) rfl ?_
  refine s_iload_n (j := 3) dX10_valleyLine_161 rfl rfl ?_
  refine s_if_eq (tgt := 174) dX10_valleyLine_162 rfl (fun hc3 => ?_) (fun hc3 => ?_)
  · have h := ifp hc3 h
    exact s_sub (ks := [2, 3, 1]) rfl (fX10_valleyLine_b174_ok o x3 (xw (s0 + (xw (s1 * s2)))) q1.2 _ ho h hq)
  · have h := ifn hc3 h
    refine s_aload_n (j := 2) dX10_valleyLine_165 rfl rfl ?_
    refine s_getR dX10_valleyLine_166 flX10_17 ho ?_
    refine s_iload (j := 1) dX10_valleyLine_169 rfl ?_
    refine s_iload (j := 0) dX10_valleyLine_171 rfl ?_
    obtain ⟨hb4, h⟩ := gd h
    refine s_iastore dX10_valleyLine_173 (trX10_9 ho) hb4.1 hb4.2 ?_
    exact s_sub (ks := [2, 3, 1]) rfl (fX10_valleyLine_b174_ok o x3 (xw (s0 + (xw (s1 * s2)))) (mset q1.2 (o + 3) (xw (s0 + (xw (s1 * s2)))).toNat q1.1) _ ho h hq)
theorem fX10_valleyLine_b130_ok {Qr : Option PV → Mem → Prop}  : ∀ (o : Nat) (x3 : Int) (F : Mem) (res : Mem) (ho : isK o 10), fX10_valleyLine_b130 o x3 F = some res → Qr none res → PR cX10_valleyLine (zX10_valleyLine Qr) 130 [(0, vR o), (3, vI x3)] [] F := by
  intro o x3 F res ho h hq
  refine s_bipush dX10_valleyLine_130 rfl (cin rfl) ?_
  refine s_iconst dX10_valleyLine_132 (cin rfl) ?_
  refine s_iload_n (j := 1) dX10_valleyLine_133 rfl rfl ?_
  refine s_if_eq (tgt := 147) dX10_valleyLine_134 rfl (fun hc1 => ?_) (fun hc1 => ?_)
  · have h := ifp hc1 h
    refine s_iconst dX10_valleyLine_147 (cin rfl) ?_
    exact s_sub (ks := [0, 1]) rfl (fX10_valleyLine_b148_ok o x3 40 3 0 F _ ho h hq)
  · have h := ifn hc1 h
    refine s_aload_n (j := 0) dX10_valleyLine_137 rfl rfl ?_
    refine s_getR dX10_valleyLine_138 flX10_17 ho ?_
    refine s_bipush dX10_valleyLine_141 rfl (cin rfl) ?_
    obtain ⟨hb2, h⟩ := gd h
    refine s_iaload dX10_valleyLine_143 (trX10_9 ho) hb2.1 hb2.2 ?_
    refine s_goto (tgt := 148) dX10_valleyLine_144 rfl ?_
    exact s_sub (ks := [0, 1]) rfl (fX10_valleyLine_b148_ok o x3 40 3 (F (o + 3) 6) F _ ho h hq)
theorem fX10_valleyLine_b119_ok {Qr : Option PV → Mem → Prop}  : ∀ (o : Nat) (x1 : Int) (s0 : Int) (F : Mem) (res : Mem) (ho : isK o 10), fX10_valleyLine_b119 o x1 s0 F = some res → Qr none res → PR cX10_valleyLine (zX10_valleyLine Qr) 119 [(0, vR o), (1, vI x1)] [vI s0] F := by
  intro o x1 s0 F res ho h hq
  refine s_istore_n (ls' := [(3, vI s0), (0, vR o), (1, vI x1)]) dX10_valleyLine_119 rfl (Nat.le_of_ble_eq_true rfl) rfl ?_
  refine s_iload_n (j := 0) dX10_valleyLine_120 rfl rfl ?_
  refine s_if_ne (tgt := 130) dX10_valleyLine_121 rfl (fun hc1 => ?_) (fun hc1 => ?_)
  · have h := ifp hc1 h
    exact s_sub (ks := [1, 0]) rfl (fX10_valleyLine_b130_ok o s0 F _ ho h hq)
  · have h := ifn hc1 h
    refine s_aload_n (j := 1) dX10_valleyLine_124 rfl rfl ?_
    refine s_iconst dX10_valleyLine_125 (cin rfl) ?_
    refine s_iload_n (j := 2) dX10_valleyLine_126 rfl rfl ?_
    obtain ⟨q2, hv3, h⟩ := bnd h
    refine s_callV (As := [vI 3, vI x1]) (rest := []) (r := none) (F' := q2) dX10_valleyLine_127 (clX10_119 (Nat.le_of_ble_eq_true rfl) (Nat.le_of_ble_eq_true rfl)) ho rfl ⟨_, _, _, _, rfl, ho, hv3, rfl, rfl⟩ rfl (Nat.le_of_ble_eq_true rfl) ?_
    exact s_sub (ks := [1, 0]) rfl (fX10_valleyLine_b130_ok o s0 q2 _ ho h hq)
theorem fX10_valleyLine_b96_ok {Qr : Option PV → Mem → Prop}  : ∀ (o : Nat) (x1 : Int) (x2 : Int) (F : Mem) (res : Mem) (ho : isK o 10), fX10_valleyLine_b96 o x1 x2 F = some res → Qr none res → PR cX10_valleyLine (zX10_valleyLine Qr) 96 [(0, vR o), (1, vI x1), (2, vI x2)] [] F := by
  intro o x1 x2 F res ho h hq
  refine s_iload_n (j := 2) dX10_valleyLine_96 rfl rfl ?_
  refine s_bipush dX10_valleyLine_97 rfl (cin rfl) ?_
  refine s_icmp_ne (tgt := 202) dX10_valleyLine_99 rfl (fun hc1 => ?_) (fun hc1 => ?_)
  · have h := ifp hc1 h
    exact s_sub (ks := [0]) rfl (fX10_valleyLine_b202_ok o F _ ho h hq)
  · have h := ifn hc1 h
    refine s_aload_n (j := 0) dX10_valleyLine_102 rfl rfl ?_
    refine s_getR dX10_valleyLine_103 flX10_17 ho ?_
    refine s_bipush dX10_valleyLine_106 rfl (cin rfl) ?_
    obtain ⟨hb2, h⟩ := gd h
    refine s_iaload dX10_valleyLine_108 (trX10_9 ho) hb2.1 hb2.2 ?_
    refine s_bipush dX10_valleyLine_109 rfl (cin rfl) ?_
    refine s_icmp_ge (tgt := 118) dX10_valleyLine_111 rfl (fun hc3 => ?_) (fun hc3 => ?_)
    · have h := ifp hc3 h
      refine s_iconst dX10_valleyLine_118 (cin rfl) ?_
      exact s_sub (ks := [0, 1]) rfl (fX10_valleyLine_b119_ok o x1 0 F _ ho h hq)
    · have h := ifn hc3 h
      refine s_iconst dX10_valleyLine_114 (cin rfl) ?_
      refine s_goto (tgt := 119) dX10_valleyLine_115 rfl ?_
      exact s_sub (ks := [0, 1]) rfl (fX10_valleyLine_b119_ok o x1 1 F _ ho h hq)
theorem fX10_valleyLine_b78_ok {Qr : Option PV → Mem → Prop}  : ∀ (o : Nat) (x1 : Int) (x2 : Int) (F : Mem) (res : Mem) (ho : isK o 10), fX10_valleyLine_b78 o x1 x2 F = some res → Qr none res → PR cX10_valleyLine (zX10_valleyLine Qr) 78 [(0, vR o), (1, vI x1), (2, vI x2)] [] F := by
  intro o x1 x2 F res ho h hq
  refine s_iload_n (j := 2) dX10_valleyLine_78 rfl rfl ?_
  refine s_iconst dX10_valleyLine_79 (cin rfl) ?_
  refine s_bipush dX10_valleyLine_80 rfl (cin rfl) ?_
  refine s_callS (As := [vI x2, vI 5, vI 8]) (rest := []) (r := (some (vI (fX10_isIn x2 5 8)))) (F' := F) dX10_valleyLine_82 (clX10_115 (Nat.le_of_ble_eq_true rfl) (Nat.le_of_ble_eq_true rfl)) rfl ⟨_, _, _, _, rfl, rfl, rfl, rfl⟩ rfl (Nat.le_of_ble_eq_true rfl) ?_
  refine s_if_eq (tgt := 96) dX10_valleyLine_85 rfl (fun hc1 => ?_) (fun hc1 => ?_)
  · have h := ifp hc1 h
    exact s_sub (ks := [0, 1, 2]) rfl (fX10_valleyLine_b96_ok o x1 x2 F _ ho h hq)
  · have h := ifn hc1 h
    refine s_aload_n (j := 0) dX10_valleyLine_88 rfl rfl ?_
    refine s_iload_n (j := 2) dX10_valleyLine_89 rfl rfl ?_
    refine s_iconst dX10_valleyLine_90 (cin rfl) ?_
    refine s_isub dX10_valleyLine_91 ?_
    refine s_iload_n (j := 1) dX10_valleyLine_92 rfl rfl ?_
    obtain ⟨q2, hv3, h⟩ := bnd h
    refine s_callV (As := [vI (xw (x2 - 5)), vI x1]) (rest := []) (r := none) (F' := q2) dX10_valleyLine_93 (clX10_137 (Nat.le_of_ble_eq_true rfl) (Nat.le_of_ble_eq_true rfl)) ho rfl ⟨_, _, _, _, rfl, ho, hv3, rfl, rfl⟩ rfl (Nat.le_of_ble_eq_true rfl) ?_
    exact s_sub (ks := [0, 1, 2]) rfl (fX10_valleyLine_b96_ok o x1 x2 q2 _ ho h hq)
theorem fX10_valleyLine_b60_ok {Qr : Option PV → Mem → Prop}  : ∀ (o : Nat) (x1 : Int) (x2 : Int) (F : Mem) (res : Mem) (ho : isK o 10), fX10_valleyLine_b60 o x1 x2 F = some res → Qr none res → PR cX10_valleyLine (zX10_valleyLine Qr) 60 [(0, vR o), (1, vI x1), (2, vI x2)] [] F := by
  intro o x1 x2 F res ho h hq
  refine s_iload_n (j := 2) dX10_valleyLine_60 rfl rfl ?_
  refine s_iconst dX10_valleyLine_61 (cin rfl) ?_
  refine s_icmp_ne (tgt := 78) dX10_valleyLine_62 rfl (fun hc1 => ?_) (fun hc1 => ?_)
  · have h := ifp hc1 h
    exact s_sub (ks := [0, 1, 2]) rfl (fX10_valleyLine_b78_ok o x1 x2 F _ ho h hq)
  · have h := ifn hc1 h
    refine s_aload_n (j := 0) dX10_valleyLine_65 rfl rfl ?_
    refine s_getR dX10_valleyLine_66 flX10_17 ho ?_
    refine s_iconst dX10_valleyLine_69 (cin rfl) ?_
    refine s_aload_n (j := 0) dX10_valleyLine_70 rfl rfl ?_
    refine s_iconst dX10_valleyLine_71 (cin rfl) ?_
    refine s_bipush dX10_valleyLine_72 rfl (cin rfl) ?_
    obtain ⟨q2, hv3, h⟩ := bnd h
    refine s_callV (As := [vI 0, vI 7]) (rest := [vI 4, vR (o + 3)]) (r := (some (vI q2.1))) (F' := q2.2) dX10_valleyLine_74 (clX10_126 (Nat.le_of_ble_eq_true rfl) (Nat.le_of_ble_eq_true rfl)) ho rfl ⟨_, _, _, _, rfl, ho, hv3, rfl, rfl⟩ rfl (Nat.le_of_ble_eq_true rfl) ?_
    obtain ⟨hb4, h⟩ := gd h
    refine s_iastore dX10_valleyLine_77 (trX10_9 ho) hb4.1 hb4.2 ?_
    exact s_sub (ks := [0, 1, 2]) rfl (fX10_valleyLine_b78_ok o x1 x2 (mset q2.2 (o + 3) 4 q2.1) _ ho h hq)
theorem fX10_valleyLine_b49_ok {Qr : Option PV → Mem → Prop}  : ∀ (o : Nat) (x1 : Int) (x2 : Int) (F : Mem) (res : Mem) (ho : isK o 10), fX10_valleyLine_b49 o x1 x2 F = some res → Qr none res → PR cX10_valleyLine (zX10_valleyLine Qr) 49 [(0, vR o), (1, vI x1), (2, vI x2)] [] F := by
  intro o x1 x2 F res ho h hq
  refine s_iload_n (j := 2) dX10_valleyLine_49 rfl rfl ?_
  refine s_iconst dX10_valleyLine_50 (cin rfl) ?_
  refine s_icmp_ne (tgt := 60) dX10_valleyLine_51 rfl (fun hc1 => ?_) (fun hc1 => ?_)
  · have h := ifp hc1 h
    exact s_sub (ks := [0, 1, 2]) rfl (fX10_valleyLine_b60_ok o x1 x2 F _ ho h hq)
  · have h := ifn hc1 h
    refine s_aload_n (j := 0) dX10_valleyLine_54 rfl rfl ?_
    refine s_iconst dX10_valleyLine_55 (cin rfl) ?_
    refine s_iconst dX10_valleyLine_56 (cin rfl) ?_
    obtain ⟨q2, hv3, h⟩ := bnd h
    refine s_callV (As := [vI 2, vI 1]) (rest := []) (r := none) (F' := q2) dX10_valleyLine_57 (clX10_133 (Nat.le_of_ble_eq_true rfl) (Nat.le_of_ble_eq_true rfl)) ho rfl ⟨_, _, _, _, rfl, ho, hv3, rfl, rfl⟩ rfl (Nat.le_of_ble_eq_true rfl) ?_
    exact s_sub (ks := [0, 1, 2]) rfl (fX10_valleyLine_b60_ok o x1 x2 q2 _ ho h hq)
theorem fX10_valleyLine_b31_ok {Qr : Option PV → Mem → Prop}  : ∀ (o : Nat) (x1 : Int) (x2 : Int) (F : Mem) (res : Mem) (ho : isK o 10), fX10_valleyLine_b31 o x1 x2 F = some res → Qr none res → PR cX10_valleyLine (zX10_valleyLine Qr) 31 [(0, vR o), (1, vI x1), (2, vI x2)] [] F := by
  intro o x1 x2 F res ho h hq
  refine s_iload_n (j := 2) dX10_valleyLine_31 rfl rfl ?_
  refine s_iconst dX10_valleyLine_32 (cin rfl) ?_
  refine s_icmp_ne (tgt := 49) dX10_valleyLine_33 rfl (fun hc1 => ?_) (fun hc1 => ?_)
  · have h := ifp hc1 h
    exact s_sub (ks := [0, 1, 2]) rfl (fX10_valleyLine_b49_ok o x1 x2 F _ ho h hq)
  · have h := ifn hc1 h
    refine s_aload_n (j := 0) dX10_valleyLine_36 rfl rfl ?_
    refine s_getR dX10_valleyLine_37 flX10_17 ho ?_
    refine s_iconst dX10_valleyLine_40 (cin rfl) ?_
    refine s_aload_n (j := 0) dX10_valleyLine_41 rfl rfl ?_
    refine s_iconst dX10_valleyLine_42 (cin rfl) ?_
    refine s_bipush dX10_valleyLine_43 rfl (cin rfl) ?_
    obtain ⟨q2, hv3, h⟩ := bnd h
    refine s_callV (As := [vI 1, vI 99]) (rest := [vI 1, vR (o + 3)]) (r := (some (vI q2.1))) (F' := q2.2) dX10_valleyLine_45 (clX10_126 (Nat.le_of_ble_eq_true rfl) (Nat.le_of_ble_eq_true rfl)) ho rfl ⟨_, _, _, _, rfl, ho, hv3, rfl, rfl⟩ rfl (Nat.le_of_ble_eq_true rfl) ?_
    obtain ⟨hb4, h⟩ := gd h
    refine s_iastore dX10_valleyLine_48 (trX10_9 ho) hb4.1 hb4.2 ?_
    exact s_sub (ks := [0, 1, 2]) rfl (fX10_valleyLine_b49_ok o x1 x2 (mset q2.2 (o + 3) 1 q2.1) _ ho h hq)
theorem fX10_valleyLine_ok {Qr : Option PV → Mem → Prop} : ∀ (o : Nat) (F : Mem) (res : Mem) (ho : isK o 10), fX10_valleyLine o F = some res → Qr none res → PR cX10_valleyLine (zX10_valleyLine Qr) 0 [(0, vR o)] [] F := by
  intro o F res ho h hq
  refine s_aload_n (j := 0) dX10_valleyLine_0 rfl rfl ?_
  refine s_getI dX10_valleyLine_1 flX10_87 ho ?_
  refine s_istore_n (ls' := [(1, vI (F o 4)), (0, vR o)]) dX10_valleyLine_4 rfl (Nat.le_of_ble_eq_true rfl) rfl ?_
  refine s_aload_n (j := 1) dX10_valleyLine_5 rfl rfl ?_
  refine s_iconst dX10_valleyLine_6 (cin rfl) ?_
  refine s_bipush dX10_valleyLine_7 rfl (cin rfl) ?_
  obtain ⟨q1, hv2, h⟩ := bnd h
  refine s_callV (As := [vI 1, vI 9]) (rest := []) (r := (some (vI q1.1))) (F' := q1.2) dX10_valleyLine_9 (clX10_130 (Nat.le_of_ble_eq_true rfl) (Nat.le_of_ble_eq_true rfl)) ho rfl ⟨_, _, _, _, rfl, ho, hv2, rfl, rfl⟩ rfl (Nat.le_of_ble_eq_true rfl) ?_
  refine s_istore_n dX10_valleyLine_12 rfl (Nat.le_of_ble_eq_true rfl) rfl ?_
  refine s_iload_n (j := 0) dX10_valleyLine_13 rfl rfl ?_
  refine s_iconst dX10_valleyLine_14 (cin rfl) ?_
  refine s_icmp_ne (tgt := 31) dX10_valleyLine_15 rfl (fun hc3 => ?_) (fun hc3 => ?_)
  · have h := ifp hc3 h
    exact s_sub (ks := [2, 1, 0]) rfl (fX10_valleyLine_b31_ok o (F o 4) q1.1 q1.2 _ ho h hq)
  · have h := ifn hc3 h
    refine s_aload_n (j := 2) dX10_valleyLine_18 rfl rfl ?_
    refine s_getR dX10_valleyLine_19 flX10_17 ho ?_
    refine s_iconst dX10_valleyLine_22 (cin rfl) ?_
    refine s_aload_n (j := 2) dX10_valleyLine_23 rfl rfl ?_
    refine s_iconst dX10_valleyLine_24 (cin rfl) ?_
    refine s_bipush dX10_valleyLine_25 rfl (cin rfl) ?_
    obtain ⟨q4, hv5, h⟩ := bnd h
    refine s_callV (As := [vI 1, vI 48]) (rest := [vI 0, vR (o + 3)]) (r := (some (vI q4.1))) (F' := q4.2) dX10_valleyLine_27 (clX10_126 (Nat.le_of_ble_eq_true rfl) (Nat.le_of_ble_eq_true rfl)) ho rfl ⟨_, _, _, _, rfl, ho, hv5, rfl, rfl⟩ rfl (Nat.le_of_ble_eq_true rfl) ?_
    obtain ⟨hb6, h⟩ := gd h
    refine s_iastore dX10_valleyLine_30 (trX10_9 ho) hb6.1 hb6.2 ?_
    exact s_sub (ks := [2, 1, 0]) rfl (fX10_valleyLine_b31_ok o (F o 4) q1.1 (mset q4.2 (o + 3) 0 q4.1) _ ho h hq)
def gX10_valleyLine : XG := fun As F r F' => ∃ o : Nat, ∃ res : Mem, As = [vR o] ∧ isK o 10 ∧ fX10_valleyLine o F = some res ∧ r = none ∧ F' = res
theorem ctX10_valleyLine : xCT yX10_valleyLine cX10_valleyLine 6 (none) 6 139 gX10_valleyLine := xmet (by decide +kernel) (fun As F r F' hg => by obtain ⟨o, res, rfl, ho, h, rfl, rfl⟩ := hg; exact Nat.le_of_ble_eq_true rfl) (fun As F r F' hg => by obtain ⟨o, res, rfl, ho, h, rfl, rfl⟩ := hg; exact fX10_valleyLine_ok o _ _ ho h ⟨rfl, rfl⟩)
theorem mcX10_valleyLine : Cond.code yX10_valleyLine cX10_valleyLine 6 (none) ∈ xw_T ∧ Cond.initialized yX10_valleyLine.cls ∈ xw_T ∧ Cond.instanceMethod yX10_valleyLine ∈ xw_T ∧ Cond.selects yX10_valleyLine.cls yX10_valleyLine yX10_valleyLine ∈ xw_T := ⟨(xinT 1518 (by decide +kernel) (by decide +kernel)), (xinT 127 (by decide +kernel) (by decide +kernel)), (xinT 1517 (by decide +kernel) (by decide +kernel)), (xinT 43 (by decide +kernel) (by decide +kernel))⟩
theorem clX10_150 {fr lo : Nat} (h1 : 6 + 1 ≤ fr) (h2 : 8 + (6 + 11) + 139 ≤ lo) : xCall RX10 fr lo 0 150 10 0 gX10_valleyLine := ⟨_, _, _, _, _, _, ctX10_valleyLine, h1, h2, mcX10_valleyLine.1, (xinT 1515 (by decide +kernel) (by decide +kernel)), mcX10_valleyLine.2.1, ⟨by decide +kernel, by decide +kernel, by decide +kernel⟩, by rw [if_pos rfl]; exact ⟨mcX10_valleyLine.2.2.1, mcX10_valleyLine.2.2.2, _, _, rfl⟩⟩
theorem dX10_roundLine_0 : decode cX10_roundLine 0 = .ok (.aload_n 0, 1) := by decide +kernel
theorem dX10_roundLine_1 : decode cX10_roundLine 1 = .ok (.getfield 87, 3) := by decide +kernel
theorem dX10_roundLine_4 : decode cX10_roundLine 4 = .ok (.istore_n 1, 1) := by decide +kernel
theorem dX10_roundLine_5 : decode cX10_roundLine 5 = .ok (.aload_n 0, 1) := by decide +kernel
theorem dX10_roundLine_6 : decode cX10_roundLine 6 = .ok (.getfield 17, 3) := by decide +kernel
theorem dX10_roundLine_9 : decode cX10_roundLine 9 = .ok (.iconst 0, 1) := by decide +kernel
theorem dX10_roundLine_10 : decode cX10_roundLine 10 = .ok (.iaload, 1) := by decide +kernel
theorem dX10_roundLine_11 : decode cX10_roundLine 11 = .ok (.bipush 16, 2) := by decide +kernel
theorem dX10_roundLine_13 : decode cX10_roundLine 13 = .ok (.if_icmp .ge 7, 3) := by decide +kernel
theorem dX10_roundLine_16 : decode cX10_roundLine 16 = .ok (.iconst 1, 1) := by decide +kernel
theorem dX10_roundLine_17 : decode cX10_roundLine 17 = .ok (.goto 4, 3) := by decide +kernel
theorem dX10_roundLine_20 : decode cX10_roundLine 20 = .ok (.iconst 0, 1) := by decide +kernel
theorem dX10_roundLine_21 : decode cX10_roundLine 21 = .ok (.istore_n 2, 1) := by decide +kernel
theorem dX10_roundLine_22 : decode cX10_roundLine 22 = .ok (.aload_n 0, 1) := by decide +kernel
theorem dX10_roundLine_23 : decode cX10_roundLine 23 = .ok (.bipush 10, 2) := by decide +kernel
theorem dX10_roundLine_25 : decode cX10_roundLine 25 = .ok (.bipush 10, 2) := by decide +kernel
theorem dX10_roundLine_27 : decode cX10_roundLine 27 = .ok (.invokevirtual 130, 3) := by decide +kernel
theorem dX10_roundLine_30 : decode cX10_roundLine 30 = .ok (.bipush 10, 2) := by decide +kernel
theorem dX10_roundLine_32 : decode cX10_roundLine 32 = .ok (.if_icmp .ne 79, 3) := by decide +kernel
theorem dX10_roundLine_35 : decode cX10_roundLine 35 = .ok (.iload_n 2, 1) := by decide +kernel
theorem dX10_roundLine_36 : decode cX10_roundLine 36 = .ok (.ifCond .ne 9, 3) := by decide +kernel
theorem dX10_roundLine_39 : decode cX10_roundLine 39 = .ok (.aload_n 0, 1) := by decide +kernel
theorem dX10_roundLine_40 : decode cX10_roundLine 40 = .ok (.iconst 3, 1) := by decide +kernel
theorem dX10_roundLine_41 : decode cX10_roundLine 41 = .ok (.iload_n 1, 1) := by decide +kernel
theorem dX10_roundLine_42 : decode cX10_roundLine 42 = .ok (.invokevirtual 119, 3) := by decide +kernel
theorem dX10_roundLine_45 : decode cX10_roundLine 45 = .ok (.iconst 1, 1) := by decide +kernel
theorem dX10_roundLine_46 : decode cX10_roundLine 46 = .ok (.iconst 3, 1) := by decide +kernel
theorem dX10_roundLine_47 : decode cX10_roundLine 47 = .ok (.iload_n 2, 1) := by decide +kernel
theorem dX10_roundLine_48 : decode cX10_roundLine 48 = .ok (.ifCond .eq 12, 3) := by decide +kernel
theorem dX10_roundLine_51 : decode cX10_roundLine 51 = .ok (.aload_n 0, 1) := by decide +kernel
theorem dX10_roundLine_52 : decode cX10_roundLine 52 = .ok (.getfield 17, 3) := by decide +kernel
theorem dX10_roundLine_55 : decode cX10_roundLine 55 = .ok (.iconst 0, 1) := by decide +kernel
theorem dX10_roundLine_56 : decode cX10_roundLine 56 = .ok (.iaload, 1) := by decide +kernel
theorem dX10_roundLine_57 : decode cX10_roundLine 57 = .ok (.goto 4, 3) := by decide +kernel
theorem dX10_roundLine_60 : decode cX10_roundLine 60 = .ok (.iconst 0, 1) := by decide +kernel
theorem dX10_roundLine_61 : decode cX10_roundLine 61 = .ok (.imul, 1) := by decide +kernel
theorem dX10_roundLine_62 : decode cX10_roundLine 62 = .ok (.iadd, 1) := by decide +kernel
theorem dX10_roundLine_63 : decode cX10_roundLine 63 = .ok (.istore_n 3, 1) := by decide +kernel
theorem dX10_roundLine_64 : decode cX10_roundLine 64 = .ok (.aload_n 0, 1) := by decide +kernel
theorem dX10_roundLine_65 : decode cX10_roundLine 65 = .ok (.iconst 0, 1) := by decide +kernel
theorem dX10_roundLine_66 : decode cX10_roundLine 66 = .ok (.bipush 7, 2) := by decide +kernel
theorem dX10_roundLine_68 : decode cX10_roundLine 68 = .ok (.invokevirtual 126, 3) := by decide +kernel
theorem dX10_roundLine_71 : decode cX10_roundLine 71 = .ok (.istore 4, 2) := by decide +kernel
theorem dX10_roundLine_73 : decode cX10_roundLine 73 = .ok (.iload_n 2, 1) := by decide +kernel
theorem dX10_roundLine_74 : decode cX10_roundLine 74 = .ok (.ifCond .eq 11, 3) := by decide +kernel
theorem dX10_roundLine_77 : decode cX10_roundLine 77 = .ok (.aload_n 0, 1) := by decide +kernel
theorem dX10_roundLine_78 : decode cX10_roundLine 78 = .ok (.getfield 17, 3) := by decide +kernel
theorem dX10_roundLine_81 : decode cX10_roundLine 81 = .ok (.iload_n 3, 1) := by decide +kernel
theorem dX10_roundLine_82 : decode cX10_roundLine 82 = .ok (.iload 4, 2) := by decide +kernel
theorem dX10_roundLine_84 : decode cX10_roundLine 84 = .ok (.iastore, 1) := by decide +kernel
theorem dX10_roundLine_85 : decode cX10_roundLine 85 = .ok (.aload_n 0, 1) := by decide +kernel
theorem dX10_roundLine_86 : decode cX10_roundLine 86 = .ok (.iload_n 3, 1) := by decide +kernel
theorem dX10_roundLine_87 : decode cX10_roundLine 87 = .ok (.iconst 1, 1) := by decide +kernel
theorem dX10_roundLine_88 : decode cX10_roundLine 88 = .ok (.iadd, 1) := by decide +kernel
theorem dX10_roundLine_89 : decode cX10_roundLine 89 = .ok (.iload_n 2, 1) := by decide +kernel
theorem dX10_roundLine_90 : decode cX10_roundLine 90 = .ok (.invokevirtual 133, 3) := by decide +kernel
theorem dX10_roundLine_93 : decode cX10_roundLine 93 = .ok (.aload_n 0, 1) := by decide +kernel
theorem dX10_roundLine_94 : decode cX10_roundLine 94 = .ok (.getfield 17, 3) := by decide +kernel
theorem dX10_roundLine_97 : decode cX10_roundLine 97 = .ok (.iconst 0, 1) := by decide +kernel
theorem dX10_roundLine_98 : decode cX10_roundLine 98 = .ok (.dup2, 1) := by decide +kernel
theorem dX10_roundLine_99 : decode cX10_roundLine 99 = .ok (.iaload, 1) := by decide +kernel
theorem dX10_roundLine_100 : decode cX10_roundLine 100 = .ok (.iload_n 2, 1) := by decide +kernel
theorem dX10_roundLine_101 : decode cX10_roundLine 101 = .ok (.ifCond .eq 7, 3) := by decide +kernel
theorem dX10_roundLine_104 : decode cX10_roundLine 104 = .ok (.iconst 1, 1) := by decide +kernel
theorem dX10_roundLine_105 : decode cX10_roundLine 105 = .ok (.goto 4, 3) := by decide +kernel
theorem dX10_roundLine_108 : decode cX10_roundLine 108 = .ok (.iconst 0, 1) := by decide +kernel
theorem dX10_roundLine_109 : decode cX10_roundLine 109 = .ok (.iadd, 1) := by decide +kernel
theorem dX10_roundLine_110 : decode cX10_roundLine 110 = .ok (.iastore, 1) := by decide +kernel
theorem dX10_roundLine_111 : decode cX10_roundLine 111 = .ok (.aload_n 0, 1) := by decide +kernel
theorem dX10_roundLine_112 : decode cX10_roundLine 112 = .ok (.invokevirtual 140, 3) := by decide +kernel
theorem dX10_roundLine_115 : decode cX10_roundLine 115 = .ok (.return_, 1) := by decide +kernel
def zX10_roundLine (Qr : Option PV → Mem → Prop) : XZ := (RX10, 6, 136, 5, none, Qr)
noncomputable def fX10_roundLine_b111 (o : Nat) (F : Mem) : Option Mem :=
  (fX10_endsLine o F).bind fun q1 =>
  some q1
noncomputable def fX10_roundLine_b85 (o : Nat) (x2 : Int) (x3 : Int) (F : Mem) : Option Mem :=
  (fX10_slotsTo o (xw (x3 + 1)) x2 F).bind fun q1 =>
  if (0 : Int) ≤ 0 ∧ 0 < (alen (o + 3) : Int) then
    if x2 = 0 then
      if (0 : Int) ≤ 0 ∧ 0 < (alen (o + 3) : Int) then
        fX10_roundLine_b111 o (mset q1 (o + 3) 0 (xw ((q1 (o + 3) 0) + 0)))
      else none
    else
      if (0 : Int) ≤ 0 ∧ 0 < (alen (o + 3) : Int) then
        fX10_roundLine_b111 o (mset q1 (o + 3) 0 (xw ((q1 (o + 3) 0) + 1)))
      else none
  else none
noncomputable def fX10_roundLine_b61 (o : Nat) (x2 : Int) (s0 : Int) (s1 : Int) (s2 : Int) (F : Mem) : Option Mem :=
  (fX10_numbered o 0 7 F).bind fun q1 =>
  if x2 = 0 then
    fX10_roundLine_b85 o x2 (xw (s0 + (xw (s1 * s2)))) q1.2
  else
    if (0 : Int) ≤ (xw (s0 + (xw (s1 * s2)))) ∧ (xw (s0 + (xw (s1 * s2)))) < (alen (o + 3) : Int) then
      fX10_roundLine_b85 o x2 (xw (s0 + (xw (s1 * s2)))) (mset q1.2 (o + 3) (xw (s0 + (xw (s1 * s2)))).toNat q1.1)
    else none
noncomputable def fX10_roundLine_b45 (o : Nat) (x2 : Int) (F : Mem) : Option Mem :=
  if x2 = 0 then
    fX10_roundLine_b61 o x2 1 3 0 F
  else
    if (0 : Int) ≤ 0 ∧ 0 < (alen (o + 3) : Int) then
      fX10_roundLine_b61 o x2 1 3 (F (o + 3) 0) F
    else none
noncomputable def fX10_roundLine_b21 (o : Nat) (x1 : Int) (s0 : Int) (F : Mem) : Option Mem :=
  (fX10_takes o 10 10 F).bind fun q1 =>
  if q1.1 ≠ 10 then
    fX10_roundLine_b111 o q1.2
  else
    if s0 ≠ 0 then
      fX10_roundLine_b45 o s0 q1.2
    else
      (fX10_also o 3 x1 q1.2).bind fun q5 =>
      fX10_roundLine_b45 o s0 q5
noncomputable def fX10_roundLine (o : Nat) (F : Mem) : Option Mem :=
  if (0 : Int) ≤ 0 ∧ 0 < (alen (o + 3) : Int) then
    if 16 ≤ (F (o + 3) 0) then
      fX10_roundLine_b21 o (F o 4) 0 F
    else
      fX10_roundLine_b21 o (F o 4) 1 F
  else none
theorem fX10_roundLine_b111_ok {Qr : Option PV → Mem → Prop}  : ∀ (o : Nat) (F : Mem) (res : Mem) (ho : isK o 10), fX10_roundLine_b111 o F = some res → Qr none res → PR cX10_roundLine (zX10_roundLine Qr) 111 [(0, vR o)] [] F := by
  intro o F res ho h hq
  refine s_aload_n (j := 0) dX10_roundLine_111 rfl rfl ?_
  obtain ⟨q1, hv2, h⟩ := bnd h
  refine s_callV (As := []) (rest := []) (r := none) (F' := q1) dX10_roundLine_112 (clX10_140 (Nat.le_of_ble_eq_true rfl) (Nat.le_of_ble_eq_true rfl)) ho rfl ⟨_, _, rfl, ho, hv2, rfl, rfl⟩ rfl (Nat.le_of_ble_eq_true rfl) ?_
  have h := Option.some.inj h
  subst h
  exact s_return dX10_roundLine_115 rfl hq
theorem fX10_roundLine_b85_ok {Qr : Option PV → Mem → Prop}  : ∀ (o : Nat) (x2 : Int) (x3 : Int) (F : Mem) (res : Mem) (ho : isK o 10), fX10_roundLine_b85 o x2 x3 F = some res → Qr none res → PR cX10_roundLine (zX10_roundLine Qr) 85 [(0, vR o), (2, vI x2), (3, vI x3)] [] F := by
  intro o x2 x3 F res ho h hq
  refine s_aload_n (j := 0) dX10_roundLine_85 rfl rfl ?_
  refine s_iload_n (j := 2) dX10_roundLine_86 rfl rfl ?_
  refine s_iconst dX10_roundLine_87 (cin rfl) ?_
  refine s_iadd dX10_roundLine_88 ?_
  refine s_iload_n (j := 1) dX10_roundLine_89 rfl rfl ?_
  obtain ⟨q1, hv2, h⟩ := bnd h
  refine s_callV (As := [vI (xw (x3 + 1)), vI x2]) (rest := []) (r := none) (F' := q1) dX10_roundLine_90 (clX10_133 (Nat.le_of_ble_eq_true rfl) (Nat.le_of_ble_eq_true rfl)) ho rfl ⟨_, _, _, _, rfl, ho, hv2, rfl, rfl⟩ rfl (Nat.le_of_ble_eq_true rfl) ?_
  refine s_aload_n (j := 0) dX10_roundLine_93 rfl rfl ?_
  refine s_getR dX10_roundLine_94 flX10_17 ho ?_
  refine s_iconst dX10_roundLine_97 (cin rfl) ?_
  refine s_dup2 dX10_roundLine_98 rfl rfl ?_
  obtain ⟨hb3, h⟩ := gd h
  refine s_iaload dX10_roundLine_99 (trX10_9 ho) hb3.1 hb3.2 ?_
  refine s_iload_n (j := 1) dX10_roundLine_100 rfl rfl ?_
  refine s_if_eq (tgt := 108) dX10_roundLine_101 rfl (fun hc4 => ?_) (fun hc4 => ?_)
  · have h := ifp hc4 h
    refine s_iconst dX10_roundLine_108 (cin rfl) ?_
    refine s_iadd dX10_roundLine_109 ?_
    obtain ⟨hb5, h⟩ := gd h
    refine s_iastore dX10_roundLine_110 (trX10_9 ho) hb5.1 hb5.2 ?_
    exact s_sub (ks := [0]) rfl (fX10_roundLine_b111_ok o (mset q1 (o + 3) 0 (xw ((q1 (o + 3) 0) + 0))) _ ho h hq)
  · have h := ifn hc4 h
    refine s_iconst dX10_roundLine_104 (cin rfl) ?_
    refine s_goto (tgt := 109) dX10_roundLine_105 rfl ?_
    refine s_iadd dX10_roundLine_109 ?_
    obtain ⟨hb6, h⟩ := gd h
    refine s_iastore dX10_roundLine_110 (trX10_9 ho) hb6.1 hb6.2 ?_
    exact s_sub (ks := [0]) rfl (fX10_roundLine_b111_ok o (mset q1 (o + 3) 0 (xw ((q1 (o + 3) 0) + 1))) _ ho h hq)
theorem fX10_roundLine_b61_ok {Qr : Option PV → Mem → Prop}  : ∀ (o : Nat) (x2 : Int) (s0 : Int) (s1 : Int) (s2 : Int) (F : Mem) (res : Mem) (ho : isK o 10), fX10_roundLine_b61 o x2 s0 s1 s2 F = some res → Qr none res → PR cX10_roundLine (zX10_roundLine Qr) 61 [(0, vR o), (2, vI x2)] [vI s2, vI s1, vI s0] F := by
  intro o x2 s0 s1 s2 F res ho h hq
  refine s_imul dX10_roundLine_61 ?_
  refine s_iadd dX10_roundLine_62 ?_
  refine s_istore_n (ls' := [(3, vI (xw (s0 + (xw (s1 * s2))))), (0, vR o), (2, vI x2)]) dX10_roundLine_63 rfl (Nat.le_of_ble_eq_true rfl) rfl ?_
  refine s_aload_n (j := 1) dX10_roundLine_64 rfl rfl ?_
  refine s_iconst dX10_roundLine_65 (cin rfl) ?_
  refine s_bipush dX10_roundLine_66 rfl (cin rfl) ?_
  obtain ⟨q1, hv2, h⟩ := bnd h
  refine s_callV (As := [vI 0, vI 7]) (rest := []) (r := (some (vI q1.1))) (F' := q1.2) dX10_roundLine_68 (clX10_126 (Nat.le_of_ble_eq_true rfl) (Nat.le_of_ble_eq_true rfl)) ho rfl ⟨_, _, _, _, rfl, ho, hv2, rfl, rfl⟩ rfl (Nat.le_of_ble_eq_true rfl) ?_
  refine s_istore dX10_roundLine_71 (Nat.le_of_ble_eq_true rfl) rfl ?_
  refine s_iload_n (j := 3) dX10_roundLine_73 rfl rfl ?_
  refine s_if_eq (tgt := 85) dX10_roundLine_74 rfl (fun hc3 => ?_) (fun hc3 => ?_)
  · have h := ifp hc3 h
    exact s_sub (ks := [2, 3, 1]) rfl (fX10_roundLine_b85_ok o x2 (xw (s0 + (xw (s1 * s2)))) q1.2 _ ho h hq)
  · have h := ifn hc3 h
    refine s_aload_n (j := 2) dX10_roundLine_77 rfl rfl ?_
    refine s_getR dX10_roundLine_78 flX10_17 ho ?_
    refine s_iload_n (j := 1) dX10_roundLine_81 rfl rfl ?_
    refine s_iload (j := 0) dX10_roundLine_82 rfl ?_
    obtain ⟨hb4, h⟩ := gd h
    refine s_iastore dX10_roundLine_84 (trX10_9 ho) hb4.1 hb4.2 ?_
    exact s_sub (ks := [2, 3, 1]) rfl (fX10_roundLine_b85_ok o x2 (xw (s0 + (xw (s1 * s2)))) (mset q1.2 (o + 3) (xw (s0 + (xw (s1 * s2)))).toNat q1.1) _ ho h hq)
theorem fX10_roundLine_b45_ok {Qr : Option PV → Mem → Prop}  : ∀ (o : Nat) (x2 : Int) (F : Mem) (res : Mem) (ho : isK o 10), fX10_roundLine_b45 o x2 F = some res → Qr none res → PR cX10_roundLine (zX10_roundLine Qr) 45 [(0, vR o), (2, vI x2)] [] F := by
  intro o x2 F res ho h hq
  refine s_iconst dX10_roundLine_45 (cin rfl) ?_
  refine s_iconst dX10_roundLine_46 (cin rfl) ?_
  refine s_iload_n (j := 1) dX10_roundLine_47 rfl rfl ?_
  refine s_if_eq (tgt := 60) dX10_roundLine_48 rfl (fun hc1 => ?_) (fun hc1 => ?_)
  · have h := ifp hc1 h
    refine s_iconst dX10_roundLine_60 (cin rfl) ?_
    exact s_sub (ks := [0, 1]) rfl (fX10_roundLine_b61_ok o x2 1 3 0 F _ ho h hq)
  · have h := ifn hc1 h
    refine s_aload_n (j := 0) dX10_roundLine_51 rfl rfl ?_
    refine s_getR dX10_roundLine_52 flX10_17 ho ?_
    refine s_iconst dX10_roundLine_55 (cin rfl) ?_
    obtain ⟨hb2, h⟩ := gd h
    refine s_iaload dX10_roundLine_56 (trX10_9 ho) hb2.1 hb2.2 ?_
    refine s_goto (tgt := 61) dX10_roundLine_57 rfl ?_
    exact s_sub (ks := [0, 1]) rfl (fX10_roundLine_b61_ok o x2 1 3 (F (o + 3) 0) F _ ho h hq)
theorem fX10_roundLine_b21_ok {Qr : Option PV → Mem → Prop}  : ∀ (o : Nat) (x1 : Int) (s0 : Int) (F : Mem) (res : Mem) (ho : isK o 10), fX10_roundLine_b21 o x1 s0 F = some res → Qr none res → PR cX10_roundLine (zX10_roundLine Qr) 21 [(0, vR o), (1, vI x1)] [vI s0] F := by
  intro o x1 s0 F res ho h hq
  refine s_istore_n (ls' := [(2, vI s0), (0, vR o), (1, vI x1)]) dX10_roundLine_21 rfl (Nat.le_of_ble_eq_true rfl) rfl ?_
  refine s_aload_n (j := 1) dX10_roundLine_22 rfl rfl ?_
  refine s_bipush dX10_roundLine_23 rfl (cin rfl) ?_
  refine s_bipush dX10_roundLine_25 rfl (cin rfl) ?_
  obtain ⟨q1, hv2, h⟩ := bnd h
  refine s_callV (As := [vI 10, vI 10]) (rest := []) (r := (some (vI q1.1))) (F' := q1.2) dX10_roundLine_27 (clX10_130 (Nat.le_of_ble_eq_true rfl) (Nat.le_of_ble_eq_true rfl)) ho rfl ⟨_, _, _, _, rfl, ho, hv2, rfl, rfl⟩ rfl (Nat.le_of_ble_eq_true rfl) ?_
  refine s_bipush dX10_roundLine_30 rfl (cin rfl) ?_
  refine s_icmp_ne (tgt := 111) dX10_roundLine_32 rfl (fun hc3 => ?_) (fun hc3 => ?_)
  · have h := ifp hc3 h
    exact s_sub (ks := [1]) rfl (fX10_roundLine_b111_ok o q1.2 _ ho h hq)
  · have h := ifn hc3 h
    refine s_iload_n (j := 0) dX10_roundLine_35 rfl rfl ?_
    refine s_if_ne (tgt := 45) dX10_roundLine_36 rfl (fun hc4 => ?_) (fun hc4 => ?_)
    · have h := ifp hc4 h
      exact s_sub (ks := [1, 0]) rfl (fX10_roundLine_b45_ok o s0 q1.2 _ ho h hq)
    · have h := ifn hc4 h
      refine s_aload_n (j := 1) dX10_roundLine_39 rfl rfl ?_
      refine s_iconst dX10_roundLine_40 (cin rfl) ?_
      refine s_iload_n (j := 2) dX10_roundLine_41 rfl rfl ?_
      obtain ⟨q5, hv6, h⟩ := bnd h
      refine s_callV (As := [vI 3, vI x1]) (rest := []) (r := none) (F' := q5) dX10_roundLine_42 (clX10_119 (Nat.le_of_ble_eq_true rfl) (Nat.le_of_ble_eq_true rfl)) ho rfl ⟨_, _, _, _, rfl, ho, hv6, rfl, rfl⟩ rfl (Nat.le_of_ble_eq_true rfl) ?_
      exact s_sub (ks := [1, 0]) rfl (fX10_roundLine_b45_ok o s0 q5 _ ho h hq)
theorem fX10_roundLine_ok {Qr : Option PV → Mem → Prop} : ∀ (o : Nat) (F : Mem) (res : Mem) (ho : isK o 10), fX10_roundLine o F = some res → Qr none res → PR cX10_roundLine (zX10_roundLine Qr) 0 [(0, vR o)] [] F := by
  intro o F res ho h hq
  refine s_aload_n (j := 0) dX10_roundLine_0 rfl rfl ?_
  refine s_getI dX10_roundLine_1 flX10_87 ho ?_
  refine s_istore_n (ls' := [(1, vI (F o 4)), (0, vR o)]) dX10_roundLine_4 rfl (Nat.le_of_ble_eq_true rfl) rfl ?_
  refine s_aload_n (j := 1) dX10_roundLine_5 rfl rfl ?_
  refine s_getR dX10_roundLine_6 flX10_17 ho ?_
  refine s_iconst dX10_roundLine_9 (cin rfl) ?_
  obtain ⟨hb1, h⟩ := gd h
  refine s_iaload dX10_roundLine_10 (trX10_9 ho) hb1.1 hb1.2 ?_
  refine s_bipush dX10_roundLine_11 rfl (cin rfl) ?_
  refine s_icmp_ge (tgt := 20) dX10_roundLine_13 rfl (fun hc2 => ?_) (fun hc2 => ?_)
  · have h := ifp hc2 h
    refine s_iconst dX10_roundLine_20 (cin rfl) ?_
    exact s_sub (ks := [1, 0]) rfl (fX10_roundLine_b21_ok o (F o 4) 0 F _ ho h hq)
  · have h := ifn hc2 h
    refine s_iconst dX10_roundLine_16 (cin rfl) ?_
    refine s_goto (tgt := 21) dX10_roundLine_17 rfl ?_
    exact s_sub (ks := [1, 0]) rfl (fX10_roundLine_b21_ok o (F o 4) 1 F _ ho h hq)
def gX10_roundLine : XG := fun As F r F' => ∃ o : Nat, ∃ res : Mem, As = [vR o] ∧ isK o 10 ∧ fX10_roundLine o F = some res ∧ r = none ∧ F' = res
theorem ctX10_roundLine : xCT yX10_roundLine cX10_roundLine 5 (none) 6 136 gX10_roundLine := xmet (by decide +kernel) (fun As F r F' hg => by obtain ⟨o, res, rfl, ho, h, rfl, rfl⟩ := hg; exact Nat.le_of_ble_eq_true rfl) (fun As F r F' hg => by obtain ⟨o, res, rfl, ho, h, rfl, rfl⟩ := hg; exact fX10_roundLine_ok o _ _ ho h ⟨rfl, rfl⟩)
theorem mcX10_roundLine : Cond.code yX10_roundLine cX10_roundLine 5 (none) ∈ xw_T ∧ Cond.initialized yX10_roundLine.cls ∈ xw_T ∧ Cond.instanceMethod yX10_roundLine ∈ xw_T ∧ Cond.selects yX10_roundLine.cls yX10_roundLine yX10_roundLine ∈ xw_T := ⟨(xinT 1550 (by decide +kernel) (by decide +kernel)), (xinT 127 (by decide +kernel) (by decide +kernel)), (xinT 1549 (by decide +kernel) (by decide +kernel)), (xinT 51 (by decide +kernel) (by decide +kernel))⟩
theorem clX10_153 {fr lo : Nat} (h1 : 6 + 1 ≤ fr) (h2 : 8 + (5 + 11) + 136 ≤ lo) : xCall RX10 fr lo 0 153 10 0 gX10_roundLine := ⟨_, _, _, _, _, _, ctX10_roundLine, h1, h2, mcX10_roundLine.1, (xinT 1547 (by decide +kernel) (by decide +kernel)), mcX10_roundLine.2.1, ⟨by decide +kernel, by decide +kernel, by decide +kernel⟩, by rw [if_pos rfl]; exact ⟨mcX10_roundLine.2.2.1, mcX10_roundLine.2.2.2, _, _, rfl⟩⟩
theorem dX10_listLine_0 : decode cX10_listLine 0 = .ok (.aload_n 0, 1) := by decide +kernel
theorem dX10_listLine_1 : decode cX10_listLine 1 = .ok (.getfield 87, 3) := by decide +kernel
theorem dX10_listLine_4 : decode cX10_listLine 4 = .ok (.istore_n 1, 1) := by decide +kernel
theorem dX10_listLine_5 : decode cX10_listLine 5 = .ok (.aload_n 0, 1) := by decide +kernel
theorem dX10_listLine_6 : decode cX10_listLine 6 = .ok (.bipush 17, 2) := by decide +kernel
theorem dX10_listLine_8 : decode cX10_listLine 8 = .ok (.bipush 17, 2) := by decide +kernel
theorem dX10_listLine_10 : decode cX10_listLine 10 = .ok (.invokevirtual 130, 3) := by decide +kernel
theorem dX10_listLine_13 : decode cX10_listLine 13 = .ok (.bipush 17, 2) := by decide +kernel
theorem dX10_listLine_15 : decode cX10_listLine 15 = .ok (.if_icmp .ne 94, 3) := by decide +kernel
theorem dX10_listLine_18 : decode cX10_listLine 18 = .ok (.aload_n 0, 1) := by decide +kernel
theorem dX10_listLine_19 : decode cX10_listLine 19 = .ok (.getfield 17, 3) := by decide +kernel
theorem dX10_listLine_22 : decode cX10_listLine 22 = .ok (.iconst 0, 1) := by decide +kernel
theorem dX10_listLine_23 : decode cX10_listLine 23 = .ok (.iaload, 1) := by decide +kernel
theorem dX10_listLine_24 : decode cX10_listLine 24 = .ok (.bipush 20, 2) := by decide +kernel
theorem dX10_listLine_26 : decode cX10_listLine 26 = .ok (.if_icmp .ge 7, 3) := by decide +kernel
theorem dX10_listLine_29 : decode cX10_listLine 29 = .ok (.iconst 1, 1) := by decide +kernel
theorem dX10_listLine_30 : decode cX10_listLine 30 = .ok (.goto 4, 3) := by decide +kernel
theorem dX10_listLine_33 : decode cX10_listLine 33 = .ok (.iconst 0, 1) := by decide +kernel
theorem dX10_listLine_34 : decode cX10_listLine 34 = .ok (.istore_n 2, 1) := by decide +kernel
theorem dX10_listLine_35 : decode cX10_listLine 35 = .ok (.iload_n 2, 1) := by decide +kernel
theorem dX10_listLine_36 : decode cX10_listLine 36 = .ok (.ifCond .ne 9, 3) := by decide +kernel
theorem dX10_listLine_39 : decode cX10_listLine 39 = .ok (.aload_n 0, 1) := by decide +kernel
theorem dX10_listLine_40 : decode cX10_listLine 40 = .ok (.iconst 3, 1) := by decide +kernel
theorem dX10_listLine_41 : decode cX10_listLine 41 = .ok (.iload_n 1, 1) := by decide +kernel
theorem dX10_listLine_42 : decode cX10_listLine 42 = .ok (.invokevirtual 119, 3) := by decide +kernel
theorem dX10_listLine_45 : decode cX10_listLine 45 = .ok (.aload_n 0, 1) := by decide +kernel
theorem dX10_listLine_46 : decode cX10_listLine 46 = .ok (.iconst 0, 1) := by decide +kernel
theorem dX10_listLine_47 : decode cX10_listLine 47 = .ok (.bipush 7, 2) := by decide +kernel
theorem dX10_listLine_49 : decode cX10_listLine 49 = .ok (.invokevirtual 126, 3) := by decide +kernel
theorem dX10_listLine_52 : decode cX10_listLine 52 = .ok (.istore_n 3, 1) := by decide +kernel
theorem dX10_listLine_53 : decode cX10_listLine 53 = .ok (.aload_n 0, 1) := by decide +kernel
theorem dX10_listLine_54 : decode cX10_listLine 54 = .ok (.iconst 0, 1) := by decide +kernel
theorem dX10_listLine_55 : decode cX10_listLine 55 = .ok (.bipush 99, 2) := by decide +kernel
theorem dX10_listLine_57 : decode cX10_listLine 57 = .ok (.invokevirtual 126, 3) := by decide +kernel
theorem dX10_listLine_60 : decode cX10_listLine 60 = .ok (.istore 4, 2) := by decide +kernel
theorem dX10_listLine_62 : decode cX10_listLine 62 = .ok (.iload_n 2, 1) := by decide +kernel
theorem dX10_listLine_63 : decode cX10_listLine 63 = .ok (.ifCond .eq 46, 3) := by decide +kernel
theorem dX10_listLine_66 : decode cX10_listLine 66 = .ok (.aload_n 0, 1) := by decide +kernel
theorem dX10_listLine_67 : decode cX10_listLine 67 = .ok (.getfield 17, 3) := by decide +kernel
theorem dX10_listLine_70 : decode cX10_listLine 70 = .ok (.iconst 1, 1) := by decide +kernel
theorem dX10_listLine_71 : decode cX10_listLine 71 = .ok (.iconst 2, 1) := by decide +kernel
theorem dX10_listLine_72 : decode cX10_listLine 72 = .ok (.aload_n 0, 1) := by decide +kernel
theorem dX10_listLine_73 : decode cX10_listLine 73 = .ok (.getfield 17, 3) := by decide +kernel
theorem dX10_listLine_76 : decode cX10_listLine 76 = .ok (.iconst 0, 1) := by decide +kernel
theorem dX10_listLine_77 : decode cX10_listLine 77 = .ok (.iaload, 1) := by decide +kernel
theorem dX10_listLine_78 : decode cX10_listLine 78 = .ok (.imul, 1) := by decide +kernel
theorem dX10_listLine_79 : decode cX10_listLine 79 = .ok (.iadd, 1) := by decide +kernel
theorem dX10_listLine_80 : decode cX10_listLine 80 = .ok (.iload_n 3, 1) := by decide +kernel
theorem dX10_listLine_81 : decode cX10_listLine 81 = .ok (.iastore, 1) := by decide +kernel
theorem dX10_listLine_82 : decode cX10_listLine 82 = .ok (.aload_n 0, 1) := by decide +kernel
theorem dX10_listLine_83 : decode cX10_listLine 83 = .ok (.getfield 17, 3) := by decide +kernel
theorem dX10_listLine_86 : decode cX10_listLine 86 = .ok (.iconst 2, 1) := by decide +kernel
theorem dX10_listLine_87 : decode cX10_listLine 87 = .ok (.iconst 2, 1) := by decide +kernel
theorem dX10_listLine_88 : decode cX10_listLine 88 = .ok (.aload_n 0, 1) := by decide +kernel
theorem dX10_listLine_89 : decode cX10_listLine 89 = .ok (.getfield 17, 3) := by decide +kernel
theorem dX10_listLine_92 : decode cX10_listLine 92 = .ok (.iconst 0, 1) := by decide +kernel
theorem dX10_listLine_93 : decode cX10_listLine 93 = .ok (.iaload, 1) := by decide +kernel
theorem dX10_listLine_94 : decode cX10_listLine 94 = .ok (.imul, 1) := by decide +kernel
theorem dX10_listLine_95 : decode cX10_listLine 95 = .ok (.iadd, 1) := by decide +kernel
theorem dX10_listLine_96 : decode cX10_listLine 96 = .ok (.iload 4, 2) := by decide +kernel
theorem dX10_listLine_98 : decode cX10_listLine 98 = .ok (.iastore, 1) := by decide +kernel
theorem dX10_listLine_99 : decode cX10_listLine 99 = .ok (.aload_n 0, 1) := by decide +kernel
theorem dX10_listLine_100 : decode cX10_listLine 100 = .ok (.getfield 17, 3) := by decide +kernel
theorem dX10_listLine_103 : decode cX10_listLine 103 = .ok (.iconst 0, 1) := by decide +kernel
theorem dX10_listLine_104 : decode cX10_listLine 104 = .ok (.dup2, 1) := by decide +kernel
theorem dX10_listLine_105 : decode cX10_listLine 105 = .ok (.iaload, 1) := by decide +kernel
theorem dX10_listLine_106 : decode cX10_listLine 106 = .ok (.iconst 1, 1) := by decide +kernel
theorem dX10_listLine_107 : decode cX10_listLine 107 = .ok (.iadd, 1) := by decide +kernel
theorem dX10_listLine_108 : decode cX10_listLine 108 = .ok (.iastore, 1) := by decide +kernel
theorem dX10_listLine_109 : decode cX10_listLine 109 = .ok (.aload_n 0, 1) := by decide +kernel
theorem dX10_listLine_110 : decode cX10_listLine 110 = .ok (.invokevirtual 140, 3) := by decide +kernel
theorem dX10_listLine_113 : decode cX10_listLine 113 = .ok (.return_, 1) := by decide +kernel
def zX10_listLine (Qr : Option PV → Mem → Prop) : XZ := (RX10, 5, 112, 5, none, Qr)
noncomputable def fX10_listLine_b109 (o : Nat) (F : Mem) : Option Mem :=
  (fX10_endsLine o F).bind fun q1 =>
  some q1
noncomputable def fX10_listLine_b45 (o : Nat) (x2 : Int) (F : Mem) : Option Mem :=
  (fX10_numbered o 0 7 F).bind fun q1 =>
  (fX10_numbered o 0 99 q1.2).bind fun q3 =>
  if x2 = 0 then
    fX10_listLine_b109 o q3.2
  else
    if (0 : Int) ≤ 0 ∧ 0 < (alen (o + 3) : Int) then
      if (0 : Int) ≤ (xw (1 + (xw (2 * (q3.2 (o + 3) 0))))) ∧ (xw (1 + (xw (2 * (q3.2 (o + 3) 0))))) < (alen (o + 3) : Int) then
        if (0 : Int) ≤ 0 ∧ 0 < (alen (o + 3) : Int) then
          if (0 : Int) ≤ (xw (2 + (xw (2 * ((mset q3.2 (o + 3) (xw (1 + (xw (2 * (q3.2 (o + 3) 0))))).toNat q1.1) (o + 3) 0))))) ∧ (xw (2 + (xw (2 * ((mset q3.2 (o + 3) (xw (1 + (xw (2 * (q3.2 (o + 3) 0))))).toNat q1.1) (o + 3) 0))))) < (alen (o + 3) : Int) then
            if (0 : Int) ≤ 0 ∧ 0 < (alen (o + 3) : Int) then
              if (0 : Int) ≤ 0 ∧ 0 < (alen (o + 3) : Int) then
                fX10_listLine_b109 o (mset (mset (mset q3.2 (o + 3) (xw (1 + (xw (2 * (q3.2 (o + 3) 0))))).toNat q1.1) (o + 3) (xw (2 + (xw (2 * ((mset q3.2 (o + 3) (xw (1 + (xw (2 * (q3.2 (o + 3) 0))))).toNat q1.1) (o + 3) 0))))).toNat q3.1) (o + 3) 0 (xw (((mset (mset q3.2 (o + 3) (xw (1 + (xw (2 * (q3.2 (o + 3) 0))))).toNat q1.1) (o + 3) (xw (2 + (xw (2 * ((mset q3.2 (o + 3) (xw (1 + (xw (2 * (q3.2 (o + 3) 0))))).toNat q1.1) (o + 3) 0))))).toNat q3.1) (o + 3) 0) + 1)))
              else none
            else none
          else none
        else none
      else none
    else none
noncomputable def fX10_listLine_b34 (o : Nat) (x1 : Int) (s0 : Int) (F : Mem) : Option Mem :=
  if s0 ≠ 0 then
    fX10_listLine_b45 o s0 F
  else
    (fX10_also o 3 x1 F).bind fun q2 =>
    fX10_listLine_b45 o s0 q2
noncomputable def fX10_listLine (o : Nat) (F : Mem) : Option Mem :=
  (fX10_takes o 17 17 F).bind fun q1 =>
  if q1.1 ≠ 17 then
    fX10_listLine_b109 o q1.2
  else
    if (0 : Int) ≤ 0 ∧ 0 < (alen (o + 3) : Int) then
      if 20 ≤ (q1.2 (o + 3) 0) then
        fX10_listLine_b34 o (F o 4) 0 q1.2
      else
        fX10_listLine_b34 o (F o 4) 1 q1.2
    else none
theorem fX10_listLine_b109_ok {Qr : Option PV → Mem → Prop}  : ∀ (o : Nat) (F : Mem) (res : Mem) (ho : isK o 10), fX10_listLine_b109 o F = some res → Qr none res → PR cX10_listLine (zX10_listLine Qr) 109 [(0, vR o)] [] F := by
  intro o F res ho h hq
  refine s_aload_n (j := 0) dX10_listLine_109 rfl rfl ?_
  obtain ⟨q1, hv2, h⟩ := bnd h
  refine s_callV (As := []) (rest := []) (r := none) (F' := q1) dX10_listLine_110 (clX10_140 (Nat.le_of_ble_eq_true rfl) (Nat.le_of_ble_eq_true rfl)) ho rfl ⟨_, _, rfl, ho, hv2, rfl, rfl⟩ rfl (Nat.le_of_ble_eq_true rfl) ?_
  have h := Option.some.inj h
  subst h
  exact s_return dX10_listLine_113 rfl hq
theorem fX10_listLine_b45_ok {Qr : Option PV → Mem → Prop}  : ∀ (o : Nat) (x2 : Int) (F : Mem) (res : Mem) (ho : isK o 10), fX10_listLine_b45 o x2 F = some res → Qr none res → PR cX10_listLine (zX10_listLine Qr) 45 [(0, vR o), (2, vI x2)] [] F := by
  intro o x2 F res ho h hq
  refine s_aload_n (j := 0) dX10_listLine_45 rfl rfl ?_
  refine s_iconst dX10_listLine_46 (cin rfl) ?_
  refine s_bipush dX10_listLine_47 rfl (cin rfl) ?_
  obtain ⟨q1, hv2, h⟩ := bnd h
  refine s_callV (As := [vI 0, vI 7]) (rest := []) (r := (some (vI q1.1))) (F' := q1.2) dX10_listLine_49 (clX10_126 (Nat.le_of_ble_eq_true rfl) (Nat.le_of_ble_eq_true rfl)) ho rfl ⟨_, _, _, _, rfl, ho, hv2, rfl, rfl⟩ rfl (Nat.le_of_ble_eq_true rfl) ?_
  refine s_istore_n (ls' := [(3, vI q1.1), (0, vR o), (2, vI x2)]) dX10_listLine_52 rfl (Nat.le_of_ble_eq_true rfl) rfl ?_
  refine s_aload_n (j := 1) dX10_listLine_53 rfl rfl ?_
  refine s_iconst dX10_listLine_54 (cin rfl) ?_
  refine s_bipush dX10_listLine_55 rfl (cin rfl) ?_
  obtain ⟨q3, hv4, h⟩ := bnd h
  refine s_callV (As := [vI 0, vI 99]) (rest := []) (r := (some (vI q3.1))) (F' := q3.2) dX10_listLine_57 (clX10_126 (Nat.le_of_ble_eq_true rfl) (Nat.le_of_ble_eq_true rfl)) ho rfl ⟨_, _, _, _, rfl, ho, hv4, rfl, rfl⟩ rfl (Nat.le_of_ble_eq_true rfl) ?_
  refine s_istore dX10_listLine_60 (Nat.le_of_ble_eq_true rfl) rfl ?_
  refine s_iload_n (j := 3) dX10_listLine_62 rfl rfl ?_
  refine s_if_eq (tgt := 109) dX10_listLine_63 rfl (fun hc5 => ?_) (fun hc5 => ?_)
  · have h := ifp hc5 h
    exact s_sub (ks := [2]) rfl (fX10_listLine_b109_ok o q3.2 _ ho h hq)
  · have h := ifn hc5 h
    refine s_aload_n (j := 2) dX10_listLine_66 rfl rfl ?_
    refine s_getR dX10_listLine_67 flX10_17 ho ?_
    refine s_iconst dX10_listLine_70 (cin rfl) ?_
    refine s_iconst dX10_listLine_71 (cin rfl) ?_
    refine s_aload_n (j := 2) dX10_listLine_72 rfl rfl ?_
    refine s_getR dX10_listLine_73 flX10_17 ho ?_
    refine s_iconst dX10_listLine_76 (cin rfl) ?_
    obtain ⟨hb6, h⟩ := gd h
    refine s_iaload dX10_listLine_77 (trX10_9 ho) hb6.1 hb6.2 ?_
    refine s_imul dX10_listLine_78 ?_
    refine s_iadd dX10_listLine_79 ?_
    refine s_iload_n (j := 1) dX10_listLine_80 rfl rfl ?_
    obtain ⟨hb7, h⟩ := gd h
    refine s_iastore dX10_listLine_81 (trX10_9 ho) hb7.1 hb7.2 ?_
    refine s_aload_n (j := 2) dX10_listLine_82 rfl rfl ?_
    refine s_getR dX10_listLine_83 flX10_17 ho ?_
    refine s_iconst dX10_listLine_86 (cin rfl) ?_
    refine s_iconst dX10_listLine_87 (cin rfl) ?_
    refine s_aload_n (j := 2) dX10_listLine_88 rfl rfl ?_
    refine s_getR dX10_listLine_89 flX10_17 ho ?_
    refine s_iconst dX10_listLine_92 (cin rfl) ?_
    obtain ⟨hb8, h⟩ := gd h
    refine s_iaload dX10_listLine_93 (trX10_9 ho) hb8.1 hb8.2 ?_
    refine s_imul dX10_listLine_94 ?_
    refine s_iadd dX10_listLine_95 ?_
    refine s_iload (j := 0) dX10_listLine_96 rfl ?_
    obtain ⟨hb9, h⟩ := gd h
    refine s_iastore dX10_listLine_98 (trX10_9 ho) hb9.1 hb9.2 ?_
    refine s_aload_n (j := 2) dX10_listLine_99 rfl rfl ?_
    refine s_getR dX10_listLine_100 flX10_17 ho ?_
    refine s_iconst dX10_listLine_103 (cin rfl) ?_
    refine s_dup2 dX10_listLine_104 rfl rfl ?_
    obtain ⟨hb10, h⟩ := gd h
    refine s_iaload dX10_listLine_105 (trX10_9 ho) hb10.1 hb10.2 ?_
    refine s_iconst dX10_listLine_106 (cin rfl) ?_
    refine s_iadd dX10_listLine_107 ?_
    obtain ⟨hb11, h⟩ := gd h
    refine s_iastore dX10_listLine_108 (trX10_9 ho) hb11.1 hb11.2 ?_
    exact s_sub (ks := [2]) rfl (fX10_listLine_b109_ok o (mset (mset (mset q3.2 (o + 3) (xw (1 + (xw (2 * (q3.2 (o + 3) 0))))).toNat q1.1) (o + 3) (xw (2 + (xw (2 * ((mset q3.2 (o + 3) (xw (1 + (xw (2 * (q3.2 (o + 3) 0))))).toNat q1.1) (o + 3) 0))))).toNat q3.1) (o + 3) 0 (xw (((mset (mset q3.2 (o + 3) (xw (1 + (xw (2 * (q3.2 (o + 3) 0))))).toNat q1.1) (o + 3) (xw (2 + (xw (2 * ((mset q3.2 (o + 3) (xw (1 + (xw (2 * (q3.2 (o + 3) 0))))).toNat q1.1) (o + 3) 0))))).toNat q3.1) (o + 3) 0) + 1))) _ ho h hq)
theorem fX10_listLine_b34_ok {Qr : Option PV → Mem → Prop}  : ∀ (o : Nat) (x1 : Int) (s0 : Int) (F : Mem) (res : Mem) (ho : isK o 10), fX10_listLine_b34 o x1 s0 F = some res → Qr none res → PR cX10_listLine (zX10_listLine Qr) 34 [(0, vR o), (1, vI x1)] [vI s0] F := by
  intro o x1 s0 F res ho h hq
  refine s_istore_n (ls' := [(2, vI s0), (0, vR o), (1, vI x1)]) dX10_listLine_34 rfl (Nat.le_of_ble_eq_true rfl) rfl ?_
  refine s_iload_n (j := 0) dX10_listLine_35 rfl rfl ?_
  refine s_if_ne (tgt := 45) dX10_listLine_36 rfl (fun hc1 => ?_) (fun hc1 => ?_)
  · have h := ifp hc1 h
    exact s_sub (ks := [1, 0]) rfl (fX10_listLine_b45_ok o s0 F _ ho h hq)
  · have h := ifn hc1 h
    refine s_aload_n (j := 1) dX10_listLine_39 rfl rfl ?_
    refine s_iconst dX10_listLine_40 (cin rfl) ?_
    refine s_iload_n (j := 2) dX10_listLine_41 rfl rfl ?_
    obtain ⟨q2, hv3, h⟩ := bnd h
    refine s_callV (As := [vI 3, vI x1]) (rest := []) (r := none) (F' := q2) dX10_listLine_42 (clX10_119 (Nat.le_of_ble_eq_true rfl) (Nat.le_of_ble_eq_true rfl)) ho rfl ⟨_, _, _, _, rfl, ho, hv3, rfl, rfl⟩ rfl (Nat.le_of_ble_eq_true rfl) ?_
    exact s_sub (ks := [1, 0]) rfl (fX10_listLine_b45_ok o s0 q2 _ ho h hq)
theorem fX10_listLine_ok {Qr : Option PV → Mem → Prop} : ∀ (o : Nat) (F : Mem) (res : Mem) (ho : isK o 10), fX10_listLine o F = some res → Qr none res → PR cX10_listLine (zX10_listLine Qr) 0 [(0, vR o)] [] F := by
  intro o F res ho h hq
  refine s_aload_n (j := 0) dX10_listLine_0 rfl rfl ?_
  refine s_getI dX10_listLine_1 flX10_87 ho ?_
  refine s_istore_n (ls' := [(1, vI (F o 4)), (0, vR o)]) dX10_listLine_4 rfl (Nat.le_of_ble_eq_true rfl) rfl ?_
  refine s_aload_n (j := 1) dX10_listLine_5 rfl rfl ?_
  refine s_bipush dX10_listLine_6 rfl (cin rfl) ?_
  refine s_bipush dX10_listLine_8 rfl (cin rfl) ?_
  obtain ⟨q1, hv2, h⟩ := bnd h
  refine s_callV (As := [vI 17, vI 17]) (rest := []) (r := (some (vI q1.1))) (F' := q1.2) dX10_listLine_10 (clX10_130 (Nat.le_of_ble_eq_true rfl) (Nat.le_of_ble_eq_true rfl)) ho rfl ⟨_, _, _, _, rfl, ho, hv2, rfl, rfl⟩ rfl (Nat.le_of_ble_eq_true rfl) ?_
  refine s_bipush dX10_listLine_13 rfl (cin rfl) ?_
  refine s_icmp_ne (tgt := 109) dX10_listLine_15 rfl (fun hc3 => ?_) (fun hc3 => ?_)
  · have h := ifp hc3 h
    exact s_sub (ks := [1]) rfl (fX10_listLine_b109_ok o q1.2 _ ho h hq)
  · have h := ifn hc3 h
    refine s_aload_n (j := 1) dX10_listLine_18 rfl rfl ?_
    refine s_getR dX10_listLine_19 flX10_17 ho ?_
    refine s_iconst dX10_listLine_22 (cin rfl) ?_
    obtain ⟨hb4, h⟩ := gd h
    refine s_iaload dX10_listLine_23 (trX10_9 ho) hb4.1 hb4.2 ?_
    refine s_bipush dX10_listLine_24 rfl (cin rfl) ?_
    refine s_icmp_ge (tgt := 33) dX10_listLine_26 rfl (fun hc5 => ?_) (fun hc5 => ?_)
    · have h := ifp hc5 h
      refine s_iconst dX10_listLine_33 (cin rfl) ?_
      exact s_sub (ks := [1, 0]) rfl (fX10_listLine_b34_ok o (F o 4) 0 q1.2 _ ho h hq)
    · have h := ifn hc5 h
      refine s_iconst dX10_listLine_29 (cin rfl) ?_
      refine s_goto (tgt := 34) dX10_listLine_30 rfl ?_
      exact s_sub (ks := [1, 0]) rfl (fX10_listLine_b34_ok o (F o 4) 1 q1.2 _ ho h hq)
def gX10_listLine : XG := fun As F r F' => ∃ o : Nat, ∃ res : Mem, As = [vR o] ∧ isK o 10 ∧ fX10_listLine o F = some res ∧ r = none ∧ F' = res
theorem ctX10_listLine : xCT yX10_listLine cX10_listLine 5 (none) 5 112 gX10_listLine := xmet (by decide +kernel) (fun As F r F' hg => by obtain ⟨o, res, rfl, ho, h, rfl, rfl⟩ := hg; exact Nat.le_of_ble_eq_true rfl) (fun As F r F' hg => by obtain ⟨o, res, rfl, ho, h, rfl, rfl⟩ := hg; exact fX10_listLine_ok o _ _ ho h ⟨rfl, rfl⟩)
theorem mcX10_listLine : Cond.code yX10_listLine cX10_listLine 5 (none) ∈ xw_T ∧ Cond.initialized yX10_listLine.cls ∈ xw_T ∧ Cond.instanceMethod yX10_listLine ∈ xw_T ∧ Cond.selects yX10_listLine.cls yX10_listLine yX10_listLine ∈ xw_T := ⟨(xinT 1562 (by decide +kernel) (by decide +kernel)), (xinT 127 (by decide +kernel) (by decide +kernel)), (xinT 1561 (by decide +kernel) (by decide +kernel)), (xinT 54 (by decide +kernel) (by decide +kernel))⟩
theorem clX10_159 {fr lo : Nat} (h1 : 5 + 1 ≤ fr) (h2 : 8 + (5 + 11) + 112 ≤ lo) : xCall RX10 fr lo 0 159 10 0 gX10_listLine := ⟨_, _, _, _, _, _, ctX10_listLine, h1, h2, mcX10_listLine.1, (xinT 1559 (by decide +kernel) (by decide +kernel)), mcX10_listLine.2.1, ⟨by decide +kernel, by decide +kernel, by decide +kernel⟩, by rw [if_pos rfl]; exact ⟨mcX10_listLine.2.2.1, mcX10_listLine.2.2.2, _, _, rfl⟩⟩
theorem dX10_another_0 : decode cX10_another 0 = .ok (.aload_n 0, 1) := by decide +kernel
theorem dX10_another_1 : decode cX10_another 1 = .ok (.getfield 90, 3) := by decide +kernel
theorem dX10_another_4 : decode cX10_another 4 = .ok (.iconst 1, 1) := by decide +kernel
theorem dX10_another_5 : decode cX10_another 5 = .ok (.if_icmp .ne 20, 3) := by decide +kernel
theorem dX10_another_8 : decode cX10_another 8 = .ok (.aload_n 0, 1) := by decide +kernel
theorem dX10_another_9 : decode cX10_another 9 = .ok (.getfield 106, 3) := by decide +kernel
theorem dX10_another_12 : decode cX10_another 12 = .ok (.iload_n 1, 1) := by decide +kernel
theorem dX10_another_13 : decode cX10_another 13 = .ok (.if_icmp .ne 12, 3) := by decide +kernel
theorem dX10_another_16 : decode cX10_another 16 = .ok (.aload_n 0, 1) := by decide +kernel
theorem dX10_another_17 : decode cX10_another 17 = .ok (.iconst 2, 1) := by decide +kernel
theorem dX10_another_18 : decode cX10_another 18 = .ok (.aload_n 0, 1) := by decide +kernel
theorem dX10_another_19 : decode cX10_another 19 = .ok (.getfield 87, 3) := by decide +kernel
theorem dX10_another_22 : decode cX10_another 22 = .ok (.invokevirtual 119, 3) := by decide +kernel
theorem dX10_another_25 : decode cX10_another 25 = .ok (.aload_n 0, 1) := by decide +kernel
theorem dX10_another_26 : decode cX10_another 26 = .ok (.iconst 0, 1) := by decide +kernel
theorem dX10_another_27 : decode cX10_another 27 = .ok (.bipush 7, 2) := by decide +kernel
theorem dX10_another_29 : decode cX10_another 29 = .ok (.invokevirtual 126, 3) := by decide +kernel
theorem dX10_another_32 : decode cX10_another 32 = .ok (.ireturn, 1) := by decide +kernel
def zX10_another (Qr : Option PV → Mem → Prop) : XZ := (RX10, 5, 112, 2, some FieldType.int, Qr)
noncomputable def fX10_another_b25 (o : Nat) (F : Mem) : Option (Int × Mem) :=
  (fX10_numbered o 0 7 F).bind fun q1 =>
  some (q1.1, q1.2)
noncomputable def fX10_another (o : Nat) (x1 : Int) (F : Mem) : Option (Int × Mem) :=
  if (F o 5) ≠ 1 then
    fX10_another_b25 o F
  else
    if (F o 6) ≠ x1 then
      fX10_another_b25 o F
    else
      (fX10_also o 2 (F o 4) F).bind fun q3 =>
      fX10_another_b25 o q3
theorem fX10_another_b25_ok {Qr : Option PV → Mem → Prop}  : ∀ (o : Nat) (F : Mem) (res : (Int × Mem)) (ho : isK o 10), fX10_another_b25 o F = some res → Qr (some (vI res.1)) res.2 → PR cX10_another (zX10_another Qr) 25 [(0, vR o)] [] F := by
  intro o F res ho h hq
  refine s_aload_n (j := 0) dX10_another_25 rfl rfl ?_
  refine s_iconst dX10_another_26 (cin rfl) ?_
  refine s_bipush dX10_another_27 rfl (cin rfl) ?_
  obtain ⟨q1, hv2, h⟩ := bnd h
  refine s_callV (As := [vI 0, vI 7]) (rest := []) (r := (some (vI q1.1))) (F' := q1.2) dX10_another_29 (clX10_126 (Nat.le_of_ble_eq_true rfl) (Nat.le_of_ble_eq_true rfl)) ho rfl ⟨_, _, _, _, rfl, ho, hv2, rfl, rfl⟩ rfl (Nat.le_of_ble_eq_true rfl) ?_
  have h := Option.some.inj h
  subst h
  exact s_ireturn dX10_another_32 rfl hq
theorem fX10_another_ok {Qr : Option PV → Mem → Prop} : ∀ (o : Nat) (x1 : Int) (F : Mem) (res : (Int × Mem)) (ho : isK o 10), fX10_another o x1 F = some res → Qr (some (vI res.1)) res.2 → PR cX10_another (zX10_another Qr) 0 [(0, vR o), (1, vI x1)] [] F := by
  intro o x1 F res ho h hq
  refine s_aload_n (j := 0) dX10_another_0 rfl rfl ?_
  refine s_getI dX10_another_1 flX10_90 ho ?_
  refine s_iconst dX10_another_4 (cin rfl) ?_
  refine s_icmp_ne (tgt := 25) dX10_another_5 rfl (fun hc1 => ?_) (fun hc1 => ?_)
  · have h := ifp hc1 h
    exact s_sub (ks := [0]) rfl (fX10_another_b25_ok o F _ ho h hq)
  · have h := ifn hc1 h
    refine s_aload_n (j := 0) dX10_another_8 rfl rfl ?_
    refine s_getI dX10_another_9 flX10_106 ho ?_
    refine s_iload_n (j := 1) dX10_another_12 rfl rfl ?_
    refine s_icmp_ne (tgt := 25) dX10_another_13 rfl (fun hc2 => ?_) (fun hc2 => ?_)
    · have h := ifp hc2 h
      exact s_sub (ks := [0]) rfl (fX10_another_b25_ok o F _ ho h hq)
    · have h := ifn hc2 h
      refine s_aload_n (j := 0) dX10_another_16 rfl rfl ?_
      refine s_iconst dX10_another_17 (cin rfl) ?_
      refine s_aload_n (j := 0) dX10_another_18 rfl rfl ?_
      refine s_getI dX10_another_19 flX10_87 ho ?_
      obtain ⟨q3, hv4, h⟩ := bnd h
      refine s_callV (As := [vI 2, vI (F o 4)]) (rest := []) (r := none) (F' := q3) dX10_another_22 (clX10_119 (Nat.le_of_ble_eq_true rfl) (Nat.le_of_ble_eq_true rfl)) ho rfl ⟨_, _, _, _, rfl, ho, hv4, rfl, rfl⟩ rfl (Nat.le_of_ble_eq_true rfl) ?_
      exact s_sub (ks := [0]) rfl (fX10_another_b25_ok o q3 _ ho h hq)
def gX10_another : XG := fun As F r F' => ∃ o : Nat, ∃ x1 : Int, ∃ res : (Int × Mem), As = [vR o, vI x1] ∧ isK o 10 ∧ fX10_another o x1 F = some res ∧ r = some (vI res.1) ∧ F' = res.2
theorem ctX10_another : xCT yX10_another cX10_another 2 (some FieldType.int) 5 112 gX10_another := xmet (by decide +kernel) (fun As F r F' hg => by obtain ⟨o, x1, res, rfl, ho, h, rfl, rfl⟩ := hg; exact Nat.le_of_ble_eq_true rfl) (fun As F r F' hg => by obtain ⟨o, x1, res, rfl, ho, h, rfl, rfl⟩ := hg; exact fX10_another_ok o x1 _ _ ho h ⟨rfl, rfl⟩)
theorem mcX10_another : Cond.code yX10_another cX10_another 2 (some FieldType.int) ∈ xw_T ∧ Cond.initialized yX10_another.cls ∈ xw_T ∧ Cond.instanceMethod yX10_another ∈ xw_T ∧ Cond.selects yX10_another.cls yX10_another yX10_another ∈ xw_T := ⟨(xinT 1558 (by decide +kernel) (by decide +kernel)), (xinT 127 (by decide +kernel) (by decide +kernel)), (xinT 1557 (by decide +kernel) (by decide +kernel)), (xinT 53 (by decide +kernel) (by decide +kernel))⟩
theorem clX10_143 {fr lo : Nat} (h1 : 5 + 1 ≤ fr) (h2 : 8 + (2 + 11) + 112 ≤ lo) : xCall RX10 fr lo 0 143 10 1 gX10_another := ⟨_, _, _, _, _, _, ctX10_another, h1, h2, mcX10_another.1, (xinT 1555 (by decide +kernel) (by decide +kernel)), mcX10_another.2.1, ⟨by decide +kernel, by decide +kernel, by decide +kernel⟩, by rw [if_pos rfl]; exact ⟨mcX10_another.2.2.1, mcX10_another.2.2.2, _, _, rfl⟩⟩
theorem dX10_ledgerLine_0 : decode cX10_ledgerLine 0 = .ok (.aload_n 0, 1) := by decide +kernel
theorem dX10_ledgerLine_1 : decode cX10_ledgerLine 1 = .ok (.getfield 87, 3) := by decide +kernel
theorem dX10_ledgerLine_4 : decode cX10_ledgerLine 4 = .ok (.istore_n 1, 1) := by decide +kernel
theorem dX10_ledgerLine_5 : decode cX10_ledgerLine 5 = .ok (.aload_n 0, 1) := by decide +kernel
theorem dX10_ledgerLine_6 : decode cX10_ledgerLine 6 = .ok (.bipush 11, 2) := by decide +kernel
theorem dX10_ledgerLine_8 : decode cX10_ledgerLine 8 = .ok (.bipush 16, 2) := by decide +kernel
theorem dX10_ledgerLine_10 : decode cX10_ledgerLine 10 = .ok (.invokevirtual 130, 3) := by decide +kernel
theorem dX10_ledgerLine_13 : decode cX10_ledgerLine 13 = .ok (.istore_n 2, 1) := by decide +kernel
theorem dX10_ledgerLine_14 : decode cX10_ledgerLine 14 = .ok (.iload_n 2, 1) := by decide +kernel
theorem dX10_ledgerLine_15 : decode cX10_ledgerLine 15 = .ok (.ifCond .ne 4, 3) := by decide +kernel
theorem dX10_ledgerLine_18 : decode cX10_ledgerLine 18 = .ok (.return_, 1) := by decide +kernel
theorem dX10_ledgerLine_19 : decode cX10_ledgerLine 19 = .ok (.aload_n 0, 1) := by decide +kernel
theorem dX10_ledgerLine_20 : decode cX10_ledgerLine 20 = .ok (.getfield 17, 3) := by decide +kernel
theorem dX10_ledgerLine_23 : decode cX10_ledgerLine 23 = .ok (.iconst 0, 1) := by decide +kernel
theorem dX10_ledgerLine_24 : decode cX10_ledgerLine 24 = .ok (.iaload, 1) := by decide +kernel
theorem dX10_ledgerLine_25 : decode cX10_ledgerLine 25 = .ok (.bipush 30, 2) := by decide +kernel
theorem dX10_ledgerLine_27 : decode cX10_ledgerLine 27 = .ok (.if_icmp .ge 7, 3) := by decide +kernel
theorem dX10_ledgerLine_30 : decode cX10_ledgerLine 30 = .ok (.iconst 1, 1) := by decide +kernel
theorem dX10_ledgerLine_31 : decode cX10_ledgerLine 31 = .ok (.goto 4, 3) := by decide +kernel
theorem dX10_ledgerLine_34 : decode cX10_ledgerLine 34 = .ok (.iconst 0, 1) := by decide +kernel
theorem dX10_ledgerLine_35 : decode cX10_ledgerLine 35 = .ok (.istore_n 3, 1) := by decide +kernel
theorem dX10_ledgerLine_36 : decode cX10_ledgerLine 36 = .ok (.iload_n 3, 1) := by decide +kernel
theorem dX10_ledgerLine_37 : decode cX10_ledgerLine 37 = .ok (.ifCond .ne 9, 3) := by decide +kernel
theorem dX10_ledgerLine_40 : decode cX10_ledgerLine 40 = .ok (.aload_n 0, 1) := by decide +kernel
theorem dX10_ledgerLine_41 : decode cX10_ledgerLine 41 = .ok (.iconst 3, 1) := by decide +kernel
theorem dX10_ledgerLine_42 : decode cX10_ledgerLine 42 = .ok (.iload_n 1, 1) := by decide +kernel
theorem dX10_ledgerLine_43 : decode cX10_ledgerLine 43 = .ok (.invokevirtual 119, 3) := by decide +kernel
theorem dX10_ledgerLine_46 : decode cX10_ledgerLine 46 = .ok (.iconst 1, 1) := by decide +kernel
theorem dX10_ledgerLine_47 : decode cX10_ledgerLine 47 = .ok (.bipush 6, 2) := by decide +kernel
theorem dX10_ledgerLine_49 : decode cX10_ledgerLine 49 = .ok (.iload_n 3, 1) := by decide +kernel
theorem dX10_ledgerLine_50 : decode cX10_ledgerLine 50 = .ok (.ifCond .eq 12, 3) := by decide +kernel
theorem dX10_ledgerLine_53 : decode cX10_ledgerLine 53 = .ok (.aload_n 0, 1) := by decide +kernel
theorem dX10_ledgerLine_54 : decode cX10_ledgerLine 54 = .ok (.getfield 17, 3) := by decide +kernel
theorem dX10_ledgerLine_57 : decode cX10_ledgerLine 57 = .ok (.iconst 0, 1) := by decide +kernel
theorem dX10_ledgerLine_58 : decode cX10_ledgerLine 58 = .ok (.iaload, 1) := by decide +kernel
theorem dX10_ledgerLine_59 : decode cX10_ledgerLine 59 = .ok (.goto 5, 3) := by decide +kernel
theorem dX10_ledgerLine_62 : decode cX10_ledgerLine 62 = .ok (.bipush 30, 2) := by decide +kernel
theorem dX10_ledgerLine_64 : decode cX10_ledgerLine 64 = .ok (.imul, 1) := by decide +kernel
theorem dX10_ledgerLine_65 : decode cX10_ledgerLine 65 = .ok (.iadd, 1) := by decide +kernel
theorem dX10_ledgerLine_66 : decode cX10_ledgerLine 66 = .ok (.istore 4, 2) := by decide +kernel
theorem dX10_ledgerLine_68 : decode cX10_ledgerLine 68 = .ok (.iconst 1, 1) := by decide +kernel
theorem dX10_ledgerLine_69 : decode cX10_ledgerLine 69 = .ok (.istore 5, 2) := by decide +kernel
theorem dX10_ledgerLine_71 : decode cX10_ledgerLine 71 = .ok (.iload 5, 2) := by decide +kernel
theorem dX10_ledgerLine_73 : decode cX10_ledgerLine 73 = .ok (.bipush 6, 2) := by decide +kernel
theorem dX10_ledgerLine_75 : decode cX10_ledgerLine 75 = .ok (.if_icmp .ge 20, 3) := by decide +kernel
theorem dX10_ledgerLine_78 : decode cX10_ledgerLine 78 = .ok (.aload_n 0, 1) := by decide +kernel
theorem dX10_ledgerLine_79 : decode cX10_ledgerLine 79 = .ok (.getfield 17, 3) := by decide +kernel
theorem dX10_ledgerLine_82 : decode cX10_ledgerLine 82 = .ok (.iload 4, 2) := by decide +kernel
theorem dX10_ledgerLine_84 : decode cX10_ledgerLine 84 = .ok (.iload 5, 2) := by decide +kernel
theorem dX10_ledgerLine_86 : decode cX10_ledgerLine 86 = .ok (.iadd, 1) := by decide +kernel
theorem dX10_ledgerLine_87 : decode cX10_ledgerLine 87 = .ok (.iconst (-1), 1) := by decide +kernel
theorem dX10_ledgerLine_88 : decode cX10_ledgerLine 88 = .ok (.iastore, 1) := by decide +kernel
theorem dX10_ledgerLine_89 : decode cX10_ledgerLine 89 = .ok (.iinc 5 1, 3) := by decide +kernel
theorem dX10_ledgerLine_92 : decode cX10_ledgerLine 92 = .ok (.goto (-21), 3) := by decide +kernel
theorem dX10_ledgerLine_95 : decode cX10_ledgerLine 95 = .ok (.aload_n 0, 1) := by decide +kernel
theorem dX10_ledgerLine_96 : decode cX10_ledgerLine 96 = .ok (.getfield 17, 3) := by decide +kernel
theorem dX10_ledgerLine_99 : decode cX10_ledgerLine 99 = .ok (.iload 4, 2) := by decide +kernel
theorem dX10_ledgerLine_101 : decode cX10_ledgerLine 101 = .ok (.iload_n 2, 1) := by decide +kernel
theorem dX10_ledgerLine_102 : decode cX10_ledgerLine 102 = .ok (.bipush 11, 2) := by decide +kernel
theorem dX10_ledgerLine_104 : decode cX10_ledgerLine 104 = .ok (.isub, 1) := by decide +kernel
theorem dX10_ledgerLine_105 : decode cX10_ledgerLine 105 = .ok (.iastore, 1) := by decide +kernel
theorem dX10_ledgerLine_106 : decode cX10_ledgerLine 106 = .ok (.iload_n 2, 1) := by decide +kernel
theorem dX10_ledgerLine_107 : decode cX10_ledgerLine 107 = .ok (.bipush 14, 2) := by decide +kernel
theorem dX10_ledgerLine_109 : decode cX10_ledgerLine 109 = .ok (.if_icmp .ne 22, 3) := by decide +kernel
theorem dX10_ledgerLine_112 : decode cX10_ledgerLine 112 = .ok (.aload_n 0, 1) := by decide +kernel
theorem dX10_ledgerLine_113 : decode cX10_ledgerLine 113 = .ok (.getfield 17, 3) := by decide +kernel
theorem dX10_ledgerLine_116 : decode cX10_ledgerLine 116 = .ok (.iload 4, 2) := by decide +kernel
theorem dX10_ledgerLine_118 : decode cX10_ledgerLine 118 = .ok (.iconst 1, 1) := by decide +kernel
theorem dX10_ledgerLine_119 : decode cX10_ledgerLine 119 = .ok (.iadd, 1) := by decide +kernel
theorem dX10_ledgerLine_120 : decode cX10_ledgerLine 120 = .ok (.aload_n 0, 1) := by decide +kernel
theorem dX10_ledgerLine_121 : decode cX10_ledgerLine 121 = .ok (.iconst 0, 1) := by decide +kernel
theorem dX10_ledgerLine_122 : decode cX10_ledgerLine 122 = .ok (.bipush 29, 2) := by decide +kernel
theorem dX10_ledgerLine_124 : decode cX10_ledgerLine 124 = .ok (.invokevirtual 126, 3) := by decide +kernel
theorem dX10_ledgerLine_127 : decode cX10_ledgerLine 127 = .ok (.iastore, 1) := by decide +kernel
theorem dX10_ledgerLine_128 : decode cX10_ledgerLine 128 = .ok (.goto 107, 3) := by decide +kernel
theorem dX10_ledgerLine_131 : decode cX10_ledgerLine 131 = .ok (.aload_n 0, 1) := by decide +kernel
theorem dX10_ledgerLine_132 : decode cX10_ledgerLine 132 = .ok (.getfield 17, 3) := by decide +kernel
theorem dX10_ledgerLine_135 : decode cX10_ledgerLine 135 = .ok (.iload 4, 2) := by decide +kernel
theorem dX10_ledgerLine_137 : decode cX10_ledgerLine 137 = .ok (.iconst 1, 1) := by decide +kernel
theorem dX10_ledgerLine_138 : decode cX10_ledgerLine 138 = .ok (.iadd, 1) := by decide +kernel
theorem dX10_ledgerLine_139 : decode cX10_ledgerLine 139 = .ok (.aload_n 0, 1) := by decide +kernel
theorem dX10_ledgerLine_140 : decode cX10_ledgerLine 140 = .ok (.iconst 0, 1) := by decide +kernel
theorem dX10_ledgerLine_141 : decode cX10_ledgerLine 141 = .ok (.bipush 7, 2) := by decide +kernel
theorem dX10_ledgerLine_143 : decode cX10_ledgerLine 143 = .ok (.invokevirtual 126, 3) := by decide +kernel
theorem dX10_ledgerLine_146 : decode cX10_ledgerLine 146 = .ok (.iastore, 1) := by decide +kernel
theorem dX10_ledgerLine_147 : decode cX10_ledgerLine 147 = .ok (.iload 4, 2) := by decide +kernel
theorem dX10_ledgerLine_149 : decode cX10_ledgerLine 149 = .ok (.iconst 2, 1) := by decide +kernel
theorem dX10_ledgerLine_150 : decode cX10_ledgerLine 150 = .ok (.iadd, 1) := by decide +kernel
theorem dX10_ledgerLine_151 : decode cX10_ledgerLine 151 = .ok (.istore 5, 2) := by decide +kernel
theorem dX10_ledgerLine_153 : decode cX10_ledgerLine 153 = .ok (.iload_n 2, 1) := by decide +kernel
theorem dX10_ledgerLine_154 : decode cX10_ledgerLine 154 = .ok (.bipush 12, 2) := by decide +kernel
theorem dX10_ledgerLine_156 : decode cX10_ledgerLine 156 = .ok (.if_icmp .eq 15, 3) := by decide +kernel
theorem dX10_ledgerLine_159 : decode cX10_ledgerLine 159 = .ok (.iload_n 2, 1) := by decide +kernel
theorem dX10_ledgerLine_160 : decode cX10_ledgerLine 160 = .ok (.bipush 13, 2) := by decide +kernel
theorem dX10_ledgerLine_162 : decode cX10_ledgerLine 162 = .ok (.if_icmp .eq 9, 3) := by decide +kernel
theorem dX10_ledgerLine_165 : decode cX10_ledgerLine 165 = .ok (.iload_n 2, 1) := by decide +kernel
theorem dX10_ledgerLine_166 : decode cX10_ledgerLine 166 = .ok (.bipush 15, 2) := by decide +kernel
theorem dX10_ledgerLine_168 : decode cX10_ledgerLine 168 = .ok (.if_icmp .ne 26, 3) := by decide +kernel
theorem dX10_ledgerLine_171 : decode cX10_ledgerLine 171 = .ok (.aload_n 0, 1) := by decide +kernel
theorem dX10_ledgerLine_172 : decode cX10_ledgerLine 172 = .ok (.getfield 17, 3) := by decide +kernel
theorem dX10_ledgerLine_175 : decode cX10_ledgerLine 175 = .ok (.iload 5, 2) := by decide +kernel
theorem dX10_ledgerLine_177 : decode cX10_ledgerLine 177 = .ok (.aload_n 0, 1) := by decide +kernel
theorem dX10_ledgerLine_178 : decode cX10_ledgerLine 178 = .ok (.aload_n 0, 1) := by decide +kernel
theorem dX10_ledgerLine_179 : decode cX10_ledgerLine 179 = .ok (.getfield 17, 3) := by decide +kernel
theorem dX10_ledgerLine_182 : decode cX10_ledgerLine 182 = .ok (.iload 4, 2) := by decide +kernel
theorem dX10_ledgerLine_184 : decode cX10_ledgerLine 184 = .ok (.iconst 1, 1) := by decide +kernel
theorem dX10_ledgerLine_185 : decode cX10_ledgerLine 185 = .ok (.iadd, 1) := by decide +kernel
theorem dX10_ledgerLine_186 : decode cX10_ledgerLine 186 = .ok (.iaload, 1) := by decide +kernel
theorem dX10_ledgerLine_187 : decode cX10_ledgerLine 187 = .ok (.invokevirtual 143, 3) := by decide +kernel
theorem dX10_ledgerLine_190 : decode cX10_ledgerLine 190 = .ok (.iastore, 1) := by decide +kernel
theorem dX10_ledgerLine_191 : decode cX10_ledgerLine 191 = .ok (.iinc 5 1, 3) := by decide +kernel
theorem dX10_ledgerLine_194 : decode cX10_ledgerLine 194 = .ok (.iload_n 2, 1) := by decide +kernel
theorem dX10_ledgerLine_195 : decode cX10_ledgerLine 195 = .ok (.bipush 11, 2) := by decide +kernel
theorem dX10_ledgerLine_197 : decode cX10_ledgerLine 197 = .ok (.if_icmp .eq 15, 3) := by decide +kernel
theorem dX10_ledgerLine_200 : decode cX10_ledgerLine 200 = .ok (.iload_n 2, 1) := by decide +kernel
theorem dX10_ledgerLine_201 : decode cX10_ledgerLine 201 = .ok (.bipush 12, 2) := by decide +kernel
theorem dX10_ledgerLine_203 : decode cX10_ledgerLine 203 = .ok (.if_icmp .eq 9, 3) := by decide +kernel
theorem dX10_ledgerLine_206 : decode cX10_ledgerLine 206 = .ok (.iload_n 2, 1) := by decide +kernel
theorem dX10_ledgerLine_207 : decode cX10_ledgerLine 207 = .ok (.bipush 13, 2) := by decide +kernel
theorem dX10_ledgerLine_209 : decode cX10_ledgerLine 209 = .ok (.if_icmp .ne 26, 3) := by decide +kernel
theorem dX10_ledgerLine_212 : decode cX10_ledgerLine 212 = .ok (.aload_n 0, 1) := by decide +kernel
theorem dX10_ledgerLine_213 : decode cX10_ledgerLine 213 = .ok (.getfield 17, 3) := by decide +kernel
theorem dX10_ledgerLine_216 : decode cX10_ledgerLine 216 = .ok (.iload 5, 2) := by decide +kernel
theorem dX10_ledgerLine_218 : decode cX10_ledgerLine 218 = .ok (.aload_n 0, 1) := by decide +kernel
theorem dX10_ledgerLine_219 : decode cX10_ledgerLine 219 = .ok (.iconst 0, 1) := by decide +kernel
theorem dX10_ledgerLine_220 : decode cX10_ledgerLine 220 = .ok (.bipush 6, 2) := by decide +kernel
theorem dX10_ledgerLine_222 : decode cX10_ledgerLine 222 = .ok (.invokevirtual 126, 3) := by decide +kernel
theorem dX10_ledgerLine_225 : decode cX10_ledgerLine 225 = .ok (.iastore, 1) := by decide +kernel
theorem dX10_ledgerLine_226 : decode cX10_ledgerLine 226 = .ok (.aload_n 0, 1) := by decide +kernel
theorem dX10_ledgerLine_227 : decode cX10_ledgerLine 227 = .ok (.iload 5, 2) := by decide +kernel
theorem dX10_ledgerLine_229 : decode cX10_ledgerLine 229 = .ok (.iconst 1, 1) := by decide +kernel
theorem dX10_ledgerLine_230 : decode cX10_ledgerLine 230 = .ok (.iadd, 1) := by decide +kernel
theorem dX10_ledgerLine_231 : decode cX10_ledgerLine 231 = .ok (.iconst 1, 1) := by decide +kernel
theorem dX10_ledgerLine_232 : decode cX10_ledgerLine 232 = .ok (.invokevirtual 133, 3) := by decide +kernel
theorem dX10_ledgerLine_235 : decode cX10_ledgerLine 235 = .ok (.aload_n 0, 1) := by decide +kernel
theorem dX10_ledgerLine_236 : decode cX10_ledgerLine 236 = .ok (.getfield 17, 3) := by decide +kernel
theorem dX10_ledgerLine_239 : decode cX10_ledgerLine 239 = .ok (.iconst 0, 1) := by decide +kernel
theorem dX10_ledgerLine_240 : decode cX10_ledgerLine 240 = .ok (.dup2, 1) := by decide +kernel
theorem dX10_ledgerLine_241 : decode cX10_ledgerLine 241 = .ok (.iaload, 1) := by decide +kernel
theorem dX10_ledgerLine_242 : decode cX10_ledgerLine 242 = .ok (.iload_n 3, 1) := by decide +kernel
theorem dX10_ledgerLine_243 : decode cX10_ledgerLine 243 = .ok (.ifCond .eq 7, 3) := by decide +kernel
theorem dX10_ledgerLine_246 : decode cX10_ledgerLine 246 = .ok (.iconst 1, 1) := by decide +kernel
theorem dX10_ledgerLine_247 : decode cX10_ledgerLine 247 = .ok (.goto 4, 3) := by decide +kernel
theorem dX10_ledgerLine_250 : decode cX10_ledgerLine 250 = .ok (.iconst 0, 1) := by decide +kernel
theorem dX10_ledgerLine_251 : decode cX10_ledgerLine 251 = .ok (.iadd, 1) := by decide +kernel
theorem dX10_ledgerLine_252 : decode cX10_ledgerLine 252 = .ok (.iastore, 1) := by decide +kernel
theorem dX10_ledgerLine_253 : decode cX10_ledgerLine 253 = .ok (.aload_n 0, 1) := by decide +kernel
theorem dX10_ledgerLine_254 : decode cX10_ledgerLine 254 = .ok (.invokevirtual 140, 3) := by decide +kernel
theorem dX10_ledgerLine_257 : decode cX10_ledgerLine 257 = .ok (.return_, 1) := by decide +kernel
def zX10_ledgerLine (Qr : Option PV → Mem → Prop) : XZ := (RX10, 6, 136, 6, none, Qr)
noncomputable def fX10_ledgerLine_b251 (o : Nat) (s0 : Nat) (s1 : Int) (s2 : Int) (s3 : Int) (F : Mem) : Option Mem :=
  if (0 : Int) ≤ s1 ∧ s1 < (alen s0 : Int) then
    (fX10_endsLine o (mset F s0 s1.toNat (xw (s2 + s3)))).bind fun q2 =>
    some q2
  else none
noncomputable def fX10_ledgerLine_b235 (o : Nat) (x3 : Int) (F : Mem) : Option Mem :=
  if (0 : Int) ≤ 0 ∧ 0 < (alen (o + 3) : Int) then
    if x3 = 0 then
      fX10_ledgerLine_b251 o (o + 3) 0 (F (o + 3) 0) 0 F
    else
      fX10_ledgerLine_b251 o (o + 3) 0 (F (o + 3) 0) 1 F
  else none
noncomputable def fX10_ledgerLine_b212 (o : Nat) (x3 : Int) (x5 : Int) (F : Mem) : Option Mem :=
  (fX10_numbered o 0 6 F).bind fun q1 =>
  if (0 : Int) ≤ x5 ∧ x5 < (alen (o + 3) : Int) then
    (fX10_slotsTo o (xw (x5 + 1)) 1 (mset q1.2 (o + 3) x5.toNat q1.1)).bind fun q4 =>
    fX10_ledgerLine_b235 o x3 q4
  else none
noncomputable def fX10_ledgerLine_b194 (o : Nat) (x2 : Int) (x3 : Int) (x5 : Int) (F : Mem) : Option Mem :=
  if x2 = 11 then
    fX10_ledgerLine_b212 o x3 x5 F
  else
    if x2 = 12 then
      fX10_ledgerLine_b212 o x3 x5 F
    else
      if x2 ≠ 13 then
        fX10_ledgerLine_b235 o x3 F
      else
        fX10_ledgerLine_b212 o x3 x5 F
noncomputable def fX10_ledgerLine_b171 (o : Nat) (x2 : Int) (x3 : Int) (x4 : Int) (x5 : Int) (F : Mem) : Option Mem :=
  if (0 : Int) ≤ (xw (x4 + 1)) ∧ (xw (x4 + 1)) < (alen (o + 3) : Int) then
    (fX10_another o (F (o + 3) (xw (x4 + 1)).toNat) F).bind fun q2 =>
    if (0 : Int) ≤ x5 ∧ x5 < (alen (o + 3) : Int) then
      fX10_ledgerLine_b194 o x2 x3 (xw (x5 + 1)) (mset q2.2 (o + 3) x5.toNat q2.1)
    else none
  else none
noncomputable def fX10_ledgerLine_b71 : Nat → Nat → Int → Int → Int → Int → Mem → Option Mem
  | 0, _, _, _, _, _, _ => none
  | n + 1, o, x2, x3, x4, x5, F =>
    if 6 ≤ x5 then
      if (0 : Int) ≤ x4 ∧ x4 < (alen (o + 3) : Int) then
        if x2 ≠ 14 then
          (fX10_numbered o 0 7 (mset F (o + 3) x4.toNat (xw (x2 - 11)))).bind fun q4 =>
          if (0 : Int) ≤ (xw (x4 + 1)) ∧ (xw (x4 + 1)) < (alen (o + 3) : Int) then
            if x2 = 12 then
              fX10_ledgerLine_b171 o x2 x3 x4 (xw (x4 + 2)) (mset q4.2 (o + 3) (xw (x4 + 1)).toNat q4.1)
            else
              if x2 = 13 then
                fX10_ledgerLine_b171 o x2 x3 x4 (xw (x4 + 2)) (mset q4.2 (o + 3) (xw (x4 + 1)).toNat q4.1)
              else
                if x2 ≠ 15 then
                  fX10_ledgerLine_b194 o x2 x3 (xw (x4 + 2)) (mset q4.2 (o + 3) (xw (x4 + 1)).toNat q4.1)
                else
                  fX10_ledgerLine_b171 o x2 x3 x4 (xw (x4 + 2)) (mset q4.2 (o + 3) (xw (x4 + 1)).toNat q4.1)
          else none
        else
          (fX10_numbered o 0 29 (mset F (o + 3) x4.toNat (xw (x2 - 11)))).bind fun q10 =>
          if (0 : Int) ≤ (xw (x4 + 1)) ∧ (xw (x4 + 1)) < (alen (o + 3) : Int) then
            fX10_ledgerLine_b235 o x3 (mset q10.2 (o + 3) (xw (x4 + 1)).toNat q10.1)
          else none
      else none
    else
      if (0 : Int) ≤ (xw (x4 + x5)) ∧ (xw (x4 + x5)) < (alen (o + 3) : Int) then
        fX10_ledgerLine_b71 n o x2 x3 x4 (xw (x5 + 1)) (mset F (o + 3) (xw (x4 + x5)).toNat (-1))
      else none
noncomputable def fX10_ledgerLine_b46 (o : Nat) (x2 : Int) (x3 : Int) (F : Mem) : Option Mem :=
  if x3 = 0 then
    fX10_ledgerLine_b71 FU o x2 x3 (xw (1 + (xw (6 * 30)))) 1 F
  else
    if (0 : Int) ≤ 0 ∧ 0 < (alen (o + 3) : Int) then
      fX10_ledgerLine_b71 FU o x2 x3 (xw (1 + (xw (6 * (F (o + 3) 0))))) 1 F
    else none
noncomputable def fX10_ledgerLine_b35 (o : Nat) (x1 : Int) (x2 : Int) (s0 : Int) (F : Mem) : Option Mem :=
  if s0 ≠ 0 then
    fX10_ledgerLine_b46 o x2 s0 F
  else
    (fX10_also o 3 x1 F).bind fun q2 =>
    fX10_ledgerLine_b46 o x2 s0 q2
noncomputable def fX10_ledgerLine (o : Nat) (F : Mem) : Option Mem :=
  (fX10_takes o 11 16 F).bind fun q1 =>
  if q1.1 ≠ 0 then
    if (0 : Int) ≤ 0 ∧ 0 < (alen (o + 3) : Int) then
      if 30 ≤ (q1.2 (o + 3) 0) then
        fX10_ledgerLine_b35 o (F o 4) q1.1 0 q1.2
      else
        fX10_ledgerLine_b35 o (F o 4) q1.1 1 q1.2
    else none
  else
    some q1.2
theorem fX10_ledgerLine_b251_ok {Qr : Option PV → Mem → Prop}  : ∀ (o : Nat) (s0 : Nat) (s1 : Int) (s2 : Int) (s3 : Int) (F : Mem) (res : Mem) (ho : isK o 10) (hs0 : isA s0 0), fX10_ledgerLine_b251 o s0 s1 s2 s3 F = some res → Qr none res → PR cX10_ledgerLine (zX10_ledgerLine Qr) 251 [(0, vR o)] [vI s3, vI s2, vI s1, vR s0] F := by
  intro o s0 s1 s2 s3 F res ho hs0 h hq
  refine s_iadd dX10_ledgerLine_251 ?_
  obtain ⟨hb1, h⟩ := gd h
  refine s_iastore dX10_ledgerLine_252 hs0 hb1.1 hb1.2 ?_
  refine s_aload_n (j := 0) dX10_ledgerLine_253 rfl rfl ?_
  obtain ⟨q2, hv3, h⟩ := bnd h
  refine s_callV (As := []) (rest := []) (r := none) (F' := q2) dX10_ledgerLine_254 (clX10_140 (Nat.le_of_ble_eq_true rfl) (Nat.le_of_ble_eq_true rfl)) ho rfl ⟨_, _, rfl, ho, hv3, rfl, rfl⟩ rfl (Nat.le_of_ble_eq_true rfl) ?_
  have h := Option.some.inj h
  subst h
  exact s_return dX10_ledgerLine_257 rfl hq
theorem fX10_ledgerLine_b235_ok {Qr : Option PV → Mem → Prop}  : ∀ (o : Nat) (x3 : Int) (F : Mem) (res : Mem) (ho : isK o 10), fX10_ledgerLine_b235 o x3 F = some res → Qr none res → PR cX10_ledgerLine (zX10_ledgerLine Qr) 235 [(0, vR o), (3, vI x3)] [] F := by
  intro o x3 F res ho h hq
  refine s_aload_n (j := 0) dX10_ledgerLine_235 rfl rfl ?_
  refine s_getR dX10_ledgerLine_236 flX10_17 ho ?_
  refine s_iconst dX10_ledgerLine_239 (cin rfl) ?_
  refine s_dup2 dX10_ledgerLine_240 rfl rfl ?_
  obtain ⟨hb1, h⟩ := gd h
  refine s_iaload dX10_ledgerLine_241 (trX10_9 ho) hb1.1 hb1.2 ?_
  refine s_iload_n (j := 1) dX10_ledgerLine_242 rfl rfl ?_
  refine s_if_eq (tgt := 250) dX10_ledgerLine_243 rfl (fun hc2 => ?_) (fun hc2 => ?_)
  · have h := ifp hc2 h
    refine s_iconst dX10_ledgerLine_250 (cin rfl) ?_
    exact s_sub (ks := [0]) rfl (fX10_ledgerLine_b251_ok o (o + 3) 0 (F (o + 3) 0) 0 F _ ho (trX10_9 ho) h hq)
  · have h := ifn hc2 h
    refine s_iconst dX10_ledgerLine_246 (cin rfl) ?_
    refine s_goto (tgt := 251) dX10_ledgerLine_247 rfl ?_
    exact s_sub (ks := [0]) rfl (fX10_ledgerLine_b251_ok o (o + 3) 0 (F (o + 3) 0) 1 F _ ho (trX10_9 ho) h hq)
theorem fX10_ledgerLine_b212_ok {Qr : Option PV → Mem → Prop}  : ∀ (o : Nat) (x3 : Int) (x5 : Int) (F : Mem) (res : Mem) (ho : isK o 10), fX10_ledgerLine_b212 o x3 x5 F = some res → Qr none res → PR cX10_ledgerLine (zX10_ledgerLine Qr) 212 [(0, vR o), (3, vI x3), (5, vI x5)] [] F := by
  intro o x3 x5 F res ho h hq
  refine s_aload_n (j := 0) dX10_ledgerLine_212 rfl rfl ?_
  refine s_getR dX10_ledgerLine_213 flX10_17 ho ?_
  refine s_iload (j := 2) dX10_ledgerLine_216 rfl ?_
  refine s_aload_n (j := 0) dX10_ledgerLine_218 rfl rfl ?_
  refine s_iconst dX10_ledgerLine_219 (cin rfl) ?_
  refine s_bipush dX10_ledgerLine_220 rfl (cin rfl) ?_
  obtain ⟨q1, hv2, h⟩ := bnd h
  refine s_callV (As := [vI 0, vI 6]) (rest := [vI x5, vR (o + 3)]) (r := (some (vI q1.1))) (F' := q1.2) dX10_ledgerLine_222 (clX10_126 (Nat.le_of_ble_eq_true rfl) (Nat.le_of_ble_eq_true rfl)) ho rfl ⟨_, _, _, _, rfl, ho, hv2, rfl, rfl⟩ rfl (Nat.le_of_ble_eq_true rfl) ?_
  obtain ⟨hb3, h⟩ := gd h
  refine s_iastore dX10_ledgerLine_225 (trX10_9 ho) hb3.1 hb3.2 ?_
  refine s_aload_n (j := 0) dX10_ledgerLine_226 rfl rfl ?_
  refine s_iload (j := 2) dX10_ledgerLine_227 rfl ?_
  refine s_iconst dX10_ledgerLine_229 (cin rfl) ?_
  refine s_iadd dX10_ledgerLine_230 ?_
  refine s_iconst dX10_ledgerLine_231 (cin rfl) ?_
  obtain ⟨q4, hv5, h⟩ := bnd h
  refine s_callV (As := [vI (xw (x5 + 1)), vI 1]) (rest := []) (r := none) (F' := q4) dX10_ledgerLine_232 (clX10_133 (Nat.le_of_ble_eq_true rfl) (Nat.le_of_ble_eq_true rfl)) ho rfl ⟨_, _, _, _, rfl, ho, hv5, rfl, rfl⟩ rfl (Nat.le_of_ble_eq_true rfl) ?_
  exact s_sub (ks := [0, 1]) rfl (fX10_ledgerLine_b235_ok o x3 q4 _ ho h hq)
theorem fX10_ledgerLine_b194_ok {Qr : Option PV → Mem → Prop}  : ∀ (o : Nat) (x2 : Int) (x3 : Int) (x5 : Int) (F : Mem) (res : Mem) (ho : isK o 10), fX10_ledgerLine_b194 o x2 x3 x5 F = some res → Qr none res → PR cX10_ledgerLine (zX10_ledgerLine Qr) 194 [(0, vR o), (2, vI x2), (3, vI x3), (5, vI x5)] [] F := by
  intro o x2 x3 x5 F res ho h hq
  refine s_iload_n (j := 1) dX10_ledgerLine_194 rfl rfl ?_
  refine s_bipush dX10_ledgerLine_195 rfl (cin rfl) ?_
  refine s_icmp_eq (tgt := 212) dX10_ledgerLine_197 rfl (fun hc1 => ?_) (fun hc1 => ?_)
  · have h := ifp hc1 h
    exact s_sub (ks := [0, 2, 3]) rfl (fX10_ledgerLine_b212_ok o x3 x5 F _ ho h hq)
  · have h := ifn hc1 h
    refine s_iload_n (j := 1) dX10_ledgerLine_200 rfl rfl ?_
    refine s_bipush dX10_ledgerLine_201 rfl (cin rfl) ?_
    refine s_icmp_eq (tgt := 212) dX10_ledgerLine_203 rfl (fun hc2 => ?_) (fun hc2 => ?_)
    · have h := ifp hc2 h
      exact s_sub (ks := [0, 2, 3]) rfl (fX10_ledgerLine_b212_ok o x3 x5 F _ ho h hq)
    · have h := ifn hc2 h
      refine s_iload_n (j := 1) dX10_ledgerLine_206 rfl rfl ?_
      refine s_bipush dX10_ledgerLine_207 rfl (cin rfl) ?_
      refine s_icmp_ne (tgt := 235) dX10_ledgerLine_209 rfl (fun hc3 => ?_) (fun hc3 => ?_)
      · have h := ifp hc3 h
        exact s_sub (ks := [0, 2]) rfl (fX10_ledgerLine_b235_ok o x3 F _ ho h hq)
      · have h := ifn hc3 h
        exact s_sub (ks := [0, 2, 3]) rfl (fX10_ledgerLine_b212_ok o x3 x5 F _ ho h hq)
theorem fX10_ledgerLine_b171_ok {Qr : Option PV → Mem → Prop}  : ∀ (o : Nat) (x2 : Int) (x3 : Int) (x4 : Int) (x5 : Int) (F : Mem) (res : Mem) (ho : isK o 10), fX10_ledgerLine_b171 o x2 x3 x4 x5 F = some res → Qr none res → PR cX10_ledgerLine (zX10_ledgerLine Qr) 171 [(0, vR o), (2, vI x2), (3, vI x3), (4, vI x4), (5, vI x5)] [] F := by
  intro o x2 x3 x4 x5 F res ho h hq
  refine s_aload_n (j := 0) dX10_ledgerLine_171 rfl rfl ?_
  refine s_getR dX10_ledgerLine_172 flX10_17 ho ?_
  refine s_iload (j := 4) dX10_ledgerLine_175 rfl ?_
  refine s_aload_n (j := 0) dX10_ledgerLine_177 rfl rfl ?_
  refine s_aload_n (j := 0) dX10_ledgerLine_178 rfl rfl ?_
  refine s_getR dX10_ledgerLine_179 flX10_17 ho ?_
  refine s_iload (j := 3) dX10_ledgerLine_182 rfl ?_
  refine s_iconst dX10_ledgerLine_184 (cin rfl) ?_
  refine s_iadd dX10_ledgerLine_185 ?_
  obtain ⟨hb1, h⟩ := gd h
  refine s_iaload dX10_ledgerLine_186 (trX10_9 ho) hb1.1 hb1.2 ?_
  obtain ⟨q2, hv3, h⟩ := bnd h
  refine s_callV (As := [vI (F (o + 3) (xw (x4 + 1)).toNat)]) (rest := [vI x5, vR (o + 3)]) (r := (some (vI q2.1))) (F' := q2.2) dX10_ledgerLine_187 (clX10_143 (Nat.le_of_ble_eq_true rfl) (Nat.le_of_ble_eq_true rfl)) ho rfl ⟨_, _, _, rfl, ho, hv3, rfl, rfl⟩ rfl (Nat.le_of_ble_eq_true rfl) ?_
  obtain ⟨hb4, h⟩ := gd h
  refine s_iastore dX10_ledgerLine_190 (trX10_9 ho) hb4.1 hb4.2 ?_
  refine s_iinc (ls' := [(5, vI (xw (x5 + 1))), (0, vR o), (2, vI x2), (3, vI x3), (4, vI x4)]) (j := 4) dX10_ledgerLine_191 rfl (Nat.le_of_ble_eq_true rfl) rfl ?_
  exact s_sub (ks := [1, 2, 3, 0]) rfl (fX10_ledgerLine_b194_ok o x2 x3 (xw (x5 + 1)) (mset q2.2 (o + 3) x5.toNat q2.1) _ ho h hq)
theorem fX10_ledgerLine_b71_ok {Qr : Option PV → Mem → Prop}  : ∀ (n : Nat) (o : Nat) (x2 : Int) (x3 : Int) (x4 : Int) (x5 : Int) (F : Mem) (res : Mem) (ho : isK o 10), fX10_ledgerLine_b71 n o x2 x3 x4 x5 F = some res → Qr none res → PR cX10_ledgerLine (zX10_ledgerLine Qr) 71 [(0, vR o), (2, vI x2), (3, vI x3), (4, vI x4), (5, vI x5)] [] F := by
  intro n
  induction n with
  | zero => intro o x2 x3 x4 x5 F res ho h hq; exact nomatch (show (none : Option _) = some _ from h)
  | succ n ih =>
    intro o x2 x3 x4 x5 F res ho h hq
    refine s_iload (j := 4) dX10_ledgerLine_71 rfl ?_
    refine s_bipush dX10_ledgerLine_73 rfl (cin rfl) ?_
    refine s_icmp_ge (tgt := 95) dX10_ledgerLine_75 rfl (fun hc1 => ?_) (fun hc1 => ?_)
    · have h := ifp hc1 h
      refine s_aload_n (j := 0) dX10_ledgerLine_95 rfl rfl ?_
      refine s_getR dX10_ledgerLine_96 flX10_17 ho ?_
      refine s_iload (j := 3) dX10_ledgerLine_99 rfl ?_
      refine s_iload_n (j := 1) dX10_ledgerLine_101 rfl rfl ?_
      refine s_bipush dX10_ledgerLine_102 rfl (cin rfl) ?_
      refine s_isub dX10_ledgerLine_104 ?_
      obtain ⟨hb2, h⟩ := gd h
      refine s_iastore dX10_ledgerLine_105 (trX10_9 ho) hb2.1 hb2.2 ?_
      refine s_iload_n (j := 1) dX10_ledgerLine_106 rfl rfl ?_
      refine s_bipush dX10_ledgerLine_107 rfl (cin rfl) ?_
      refine s_icmp_ne (tgt := 131) dX10_ledgerLine_109 rfl (fun hc3 => ?_) (fun hc3 => ?_)
      · have h := ifp hc3 h
        refine s_aload_n (j := 0) dX10_ledgerLine_131 rfl rfl ?_
        refine s_getR dX10_ledgerLine_132 flX10_17 ho ?_
        refine s_iload (j := 3) dX10_ledgerLine_135 rfl ?_
        refine s_iconst dX10_ledgerLine_137 (cin rfl) ?_
        refine s_iadd dX10_ledgerLine_138 ?_
        refine s_aload_n (j := 0) dX10_ledgerLine_139 rfl rfl ?_
        refine s_iconst dX10_ledgerLine_140 (cin rfl) ?_
        refine s_bipush dX10_ledgerLine_141 rfl (cin rfl) ?_
        obtain ⟨q4, hv5, h⟩ := bnd h
        refine s_callV (As := [vI 0, vI 7]) (rest := [vI (xw (x4 + 1)), vR (o + 3)]) (r := (some (vI q4.1))) (F' := q4.2) dX10_ledgerLine_143 (clX10_126 (Nat.le_of_ble_eq_true rfl) (Nat.le_of_ble_eq_true rfl)) ho rfl ⟨_, _, _, _, rfl, ho, hv5, rfl, rfl⟩ rfl (Nat.le_of_ble_eq_true rfl) ?_
        obtain ⟨hb6, h⟩ := gd h
        refine s_iastore dX10_ledgerLine_146 (trX10_9 ho) hb6.1 hb6.2 ?_
        refine s_iload (j := 3) dX10_ledgerLine_147 rfl ?_
        refine s_iconst dX10_ledgerLine_149 (cin rfl) ?_
        refine s_iadd dX10_ledgerLine_150 ?_
        refine s_istore (ls' := [(5, vI (xw (x4 + 2))), (0, vR o), (2, vI x2), (3, vI x3), (4, vI x4)]) dX10_ledgerLine_151 (Nat.le_of_ble_eq_true rfl) rfl ?_
        refine s_iload_n (j := 2) dX10_ledgerLine_153 rfl rfl ?_
        refine s_bipush dX10_ledgerLine_154 rfl (cin rfl) ?_
        refine s_icmp_eq (tgt := 171) dX10_ledgerLine_156 rfl (fun hc7 => ?_) (fun hc7 => ?_)
        · have h := ifp hc7 h
          exact s_sub (ks := [1, 2, 3, 4, 0]) rfl (fX10_ledgerLine_b171_ok o x2 x3 x4 (xw (x4 + 2)) (mset q4.2 (o + 3) (xw (x4 + 1)).toNat q4.1) _ ho h hq)
        · have h := ifn hc7 h
          refine s_iload_n (j := 2) dX10_ledgerLine_159 rfl rfl ?_
          refine s_bipush dX10_ledgerLine_160 rfl (cin rfl) ?_
          refine s_icmp_eq (tgt := 171) dX10_ledgerLine_162 rfl (fun hc8 => ?_) (fun hc8 => ?_)
          · have h := ifp hc8 h
            exact s_sub (ks := [1, 2, 3, 4, 0]) rfl (fX10_ledgerLine_b171_ok o x2 x3 x4 (xw (x4 + 2)) (mset q4.2 (o + 3) (xw (x4 + 1)).toNat q4.1) _ ho h hq)
          · have h := ifn hc8 h
            refine s_iload_n (j := 2) dX10_ledgerLine_165 rfl rfl ?_
            refine s_bipush dX10_ledgerLine_166 rfl (cin rfl) ?_
            refine s_icmp_ne (tgt := 194) dX10_ledgerLine_168 rfl (fun hc9 => ?_) (fun hc9 => ?_)
            · have h := ifp hc9 h
              exact s_sub (ks := [1, 2, 3, 0]) rfl (fX10_ledgerLine_b194_ok o x2 x3 (xw (x4 + 2)) (mset q4.2 (o + 3) (xw (x4 + 1)).toNat q4.1) _ ho h hq)
            · have h := ifn hc9 h
              exact s_sub (ks := [1, 2, 3, 4, 0]) rfl (fX10_ledgerLine_b171_ok o x2 x3 x4 (xw (x4 + 2)) (mset q4.2 (o + 3) (xw (x4 + 1)).toNat q4.1) _ ho h hq)
      · have h := ifn hc3 h
        refine s_aload_n (j := 0) dX10_ledgerLine_112 rfl rfl ?_
        refine s_getR dX10_ledgerLine_113 flX10_17 ho ?_
        refine s_iload (j := 3) dX10_ledgerLine_116 rfl ?_
        refine s_iconst dX10_ledgerLine_118 (cin rfl) ?_
        refine s_iadd dX10_ledgerLine_119 ?_
        refine s_aload_n (j := 0) dX10_ledgerLine_120 rfl rfl ?_
        refine s_iconst dX10_ledgerLine_121 (cin rfl) ?_
        refine s_bipush dX10_ledgerLine_122 rfl (cin rfl) ?_
        obtain ⟨q10, hv11, h⟩ := bnd h
        refine s_callV (As := [vI 0, vI 29]) (rest := [vI (xw (x4 + 1)), vR (o + 3)]) (r := (some (vI q10.1))) (F' := q10.2) dX10_ledgerLine_124 (clX10_126 (Nat.le_of_ble_eq_true rfl) (Nat.le_of_ble_eq_true rfl)) ho rfl ⟨_, _, _, _, rfl, ho, hv11, rfl, rfl⟩ rfl (Nat.le_of_ble_eq_true rfl) ?_
        obtain ⟨hb12, h⟩ := gd h
        refine s_iastore dX10_ledgerLine_127 (trX10_9 ho) hb12.1 hb12.2 ?_
        refine s_goto (tgt := 235) dX10_ledgerLine_128 rfl ?_
        exact s_sub (ks := [0, 2]) rfl (fX10_ledgerLine_b235_ok o x3 (mset q10.2 (o + 3) (xw (x4 + 1)).toNat q10.1) _ ho h hq)
    · have h := ifn hc1 h
      refine s_aload_n (j := 0) dX10_ledgerLine_78 rfl rfl ?_
      refine s_getR dX10_ledgerLine_79 flX10_17 ho ?_
      refine s_iload (j := 3) dX10_ledgerLine_82 rfl ?_
      refine s_iload (j := 4) dX10_ledgerLine_84 rfl ?_
      refine s_iadd dX10_ledgerLine_86 ?_
      refine s_iconst dX10_ledgerLine_87 (cin rfl) ?_
      obtain ⟨hb13, h⟩ := gd h
      refine s_iastore dX10_ledgerLine_88 (trX10_9 ho) hb13.1 hb13.2 ?_
      refine s_iinc (ls' := [(5, vI (xw (x5 + 1))), (0, vR o), (2, vI x2), (3, vI x3), (4, vI x4)]) (j := 4) dX10_ledgerLine_89 rfl (Nat.le_of_ble_eq_true rfl) rfl ?_
      refine s_goto (tgt := 71) dX10_ledgerLine_92 rfl ?_
      exact s_sub (ks := [1, 2, 3, 4, 0]) rfl (ih o x2 x3 x4 (xw (x5 + 1)) (mset F (o + 3) (xw (x4 + x5)).toNat (-1)) _ ho h hq)
theorem fX10_ledgerLine_b46_ok {Qr : Option PV → Mem → Prop}  : ∀ (o : Nat) (x2 : Int) (x3 : Int) (F : Mem) (res : Mem) (ho : isK o 10), fX10_ledgerLine_b46 o x2 x3 F = some res → Qr none res → PR cX10_ledgerLine (zX10_ledgerLine Qr) 46 [(0, vR o), (2, vI x2), (3, vI x3)] [] F := by
  intro o x2 x3 F res ho h hq
  refine s_iconst dX10_ledgerLine_46 (cin rfl) ?_
  refine s_bipush dX10_ledgerLine_47 rfl (cin rfl) ?_
  refine s_iload_n (j := 2) dX10_ledgerLine_49 rfl rfl ?_
  refine s_if_eq (tgt := 62) dX10_ledgerLine_50 rfl (fun hc1 => ?_) (fun hc1 => ?_)
  · have h := ifp hc1 h
    refine s_bipush dX10_ledgerLine_62 rfl (cin rfl) ?_
    refine s_imul dX10_ledgerLine_64 ?_
    refine s_iadd dX10_ledgerLine_65 ?_
    refine s_istore (ls' := [(4, vI (xw (1 + (xw (6 * 30))))), (0, vR o), (2, vI x2), (3, vI x3)]) dX10_ledgerLine_66 (Nat.le_of_ble_eq_true rfl) rfl ?_
    refine s_iconst dX10_ledgerLine_68 (cin rfl) ?_
    refine s_istore dX10_ledgerLine_69 (Nat.le_of_ble_eq_true rfl) rfl ?_
    exact s_sub (ks := [2, 3, 4, 1, 0]) rfl (fX10_ledgerLine_b71_ok FU o x2 x3 (xw (1 + (xw (6 * 30)))) 1 F _ ho h hq)
  · have h := ifn hc1 h
    refine s_aload_n (j := 0) dX10_ledgerLine_53 rfl rfl ?_
    refine s_getR dX10_ledgerLine_54 flX10_17 ho ?_
    refine s_iconst dX10_ledgerLine_57 (cin rfl) ?_
    obtain ⟨hb2, h⟩ := gd h
    refine s_iaload dX10_ledgerLine_58 (trX10_9 ho) hb2.1 hb2.2 ?_
    refine s_goto (tgt := 64) dX10_ledgerLine_59 rfl ?_
    refine s_imul dX10_ledgerLine_64 ?_
    refine s_iadd dX10_ledgerLine_65 ?_
    refine s_istore (ls' := [(4, vI (xw (1 + (xw (6 * (F (o + 3) 0)))))), (0, vR o), (2, vI x2), (3, vI x3)]) dX10_ledgerLine_66 (Nat.le_of_ble_eq_true rfl) rfl ?_
    refine s_iconst dX10_ledgerLine_68 (cin rfl) ?_
    refine s_istore dX10_ledgerLine_69 (Nat.le_of_ble_eq_true rfl) rfl ?_
    exact s_sub (ks := [2, 3, 4, 1, 0]) rfl (fX10_ledgerLine_b71_ok FU o x2 x3 (xw (1 + (xw (6 * (F (o + 3) 0))))) 1 F _ ho h hq)
theorem fX10_ledgerLine_b35_ok {Qr : Option PV → Mem → Prop}  : ∀ (o : Nat) (x1 : Int) (x2 : Int) (s0 : Int) (F : Mem) (res : Mem) (ho : isK o 10), fX10_ledgerLine_b35 o x1 x2 s0 F = some res → Qr none res → PR cX10_ledgerLine (zX10_ledgerLine Qr) 35 [(0, vR o), (1, vI x1), (2, vI x2)] [vI s0] F := by
  intro o x1 x2 s0 F res ho h hq
  refine s_istore_n (ls' := [(3, vI s0), (0, vR o), (1, vI x1), (2, vI x2)]) dX10_ledgerLine_35 rfl (Nat.le_of_ble_eq_true rfl) rfl ?_
  refine s_iload_n (j := 0) dX10_ledgerLine_36 rfl rfl ?_
  refine s_if_ne (tgt := 46) dX10_ledgerLine_37 rfl (fun hc1 => ?_) (fun hc1 => ?_)
  · have h := ifp hc1 h
    exact s_sub (ks := [1, 3, 0]) rfl (fX10_ledgerLine_b46_ok o x2 s0 F _ ho h hq)
  · have h := ifn hc1 h
    refine s_aload_n (j := 1) dX10_ledgerLine_40 rfl rfl ?_
    refine s_iconst dX10_ledgerLine_41 (cin rfl) ?_
    refine s_iload_n (j := 2) dX10_ledgerLine_42 rfl rfl ?_
    obtain ⟨q2, hv3, h⟩ := bnd h
    refine s_callV (As := [vI 3, vI x1]) (rest := []) (r := none) (F' := q2) dX10_ledgerLine_43 (clX10_119 (Nat.le_of_ble_eq_true rfl) (Nat.le_of_ble_eq_true rfl)) ho rfl ⟨_, _, _, _, rfl, ho, hv3, rfl, rfl⟩ rfl (Nat.le_of_ble_eq_true rfl) ?_
    exact s_sub (ks := [1, 3, 0]) rfl (fX10_ledgerLine_b46_ok o x2 s0 q2 _ ho h hq)
theorem fX10_ledgerLine_ok {Qr : Option PV → Mem → Prop} : ∀ (o : Nat) (F : Mem) (res : Mem) (ho : isK o 10), fX10_ledgerLine o F = some res → Qr none res → PR cX10_ledgerLine (zX10_ledgerLine Qr) 0 [(0, vR o)] [] F := by
  intro o F res ho h hq
  refine s_aload_n (j := 0) dX10_ledgerLine_0 rfl rfl ?_
  refine s_getI dX10_ledgerLine_1 flX10_87 ho ?_
  refine s_istore_n (ls' := [(1, vI (F o 4)), (0, vR o)]) dX10_ledgerLine_4 rfl (Nat.le_of_ble_eq_true rfl) rfl ?_
  refine s_aload_n (j := 1) dX10_ledgerLine_5 rfl rfl ?_
  refine s_bipush dX10_ledgerLine_6 rfl (cin rfl) ?_
  refine s_bipush dX10_ledgerLine_8 rfl (cin rfl) ?_
  obtain ⟨q1, hv2, h⟩ := bnd h
  refine s_callV (As := [vI 11, vI 16]) (rest := []) (r := (some (vI q1.1))) (F' := q1.2) dX10_ledgerLine_10 (clX10_130 (Nat.le_of_ble_eq_true rfl) (Nat.le_of_ble_eq_true rfl)) ho rfl ⟨_, _, _, _, rfl, ho, hv2, rfl, rfl⟩ rfl (Nat.le_of_ble_eq_true rfl) ?_
  refine s_istore_n dX10_ledgerLine_13 rfl (Nat.le_of_ble_eq_true rfl) rfl ?_
  refine s_iload_n (j := 0) dX10_ledgerLine_14 rfl rfl ?_
  refine s_if_ne (tgt := 19) dX10_ledgerLine_15 rfl (fun hc3 => ?_) (fun hc3 => ?_)
  · have h := ifp hc3 h
    refine s_aload_n (j := 2) dX10_ledgerLine_19 rfl rfl ?_
    refine s_getR dX10_ledgerLine_20 flX10_17 ho ?_
    refine s_iconst dX10_ledgerLine_23 (cin rfl) ?_
    obtain ⟨hb4, h⟩ := gd h
    refine s_iaload dX10_ledgerLine_24 (trX10_9 ho) hb4.1 hb4.2 ?_
    refine s_bipush dX10_ledgerLine_25 rfl (cin rfl) ?_
    refine s_icmp_ge (tgt := 34) dX10_ledgerLine_27 rfl (fun hc5 => ?_) (fun hc5 => ?_)
    · have h := ifp hc5 h
      refine s_iconst dX10_ledgerLine_34 (cin rfl) ?_
      exact s_sub (ks := [2, 1, 0]) rfl (fX10_ledgerLine_b35_ok o (F o 4) q1.1 0 q1.2 _ ho h hq)
    · have h := ifn hc5 h
      refine s_iconst dX10_ledgerLine_30 (cin rfl) ?_
      refine s_goto (tgt := 35) dX10_ledgerLine_31 rfl ?_
      exact s_sub (ks := [2, 1, 0]) rfl (fX10_ledgerLine_b35_ok o (F o 4) q1.1 1 q1.2 _ ho h hq)
  · have h := ifn hc3 h
    have h := Option.some.inj h
    subst h
    exact s_return dX10_ledgerLine_18 rfl hq
def gX10_ledgerLine : XG := fun As F r F' => ∃ o : Nat, ∃ res : Mem, As = [vR o] ∧ isK o 10 ∧ fX10_ledgerLine o F = some res ∧ r = none ∧ F' = res
theorem ctX10_ledgerLine : xCT yX10_ledgerLine cX10_ledgerLine 6 (none) 6 136 gX10_ledgerLine := xmet (by decide +kernel) (fun As F r F' hg => by obtain ⟨o, res, rfl, ho, h, rfl, rfl⟩ := hg; exact Nat.le_of_ble_eq_true rfl) (fun As F r F' hg => by obtain ⟨o, res, rfl, ho, h, rfl, rfl⟩ := hg; exact fX10_ledgerLine_ok o _ _ ho h ⟨rfl, rfl⟩)
theorem mcX10_ledgerLine : Cond.code yX10_ledgerLine cX10_ledgerLine 6 (none) ∈ xw_T ∧ Cond.initialized yX10_ledgerLine.cls ∈ xw_T ∧ Cond.instanceMethod yX10_ledgerLine ∈ xw_T ∧ Cond.selects yX10_ledgerLine.cls yX10_ledgerLine yX10_ledgerLine ∈ xw_T := ⟨(xinT 1554 (by decide +kernel) (by decide +kernel)), (xinT 127 (by decide +kernel) (by decide +kernel)), (xinT 1553 (by decide +kernel) (by decide +kernel)), (xinT 52 (by decide +kernel) (by decide +kernel))⟩
theorem clX10_156 {fr lo : Nat} (h1 : 6 + 1 ≤ fr) (h2 : 8 + (6 + 11) + 136 ≤ lo) : xCall RX10 fr lo 0 156 10 0 gX10_ledgerLine := ⟨_, _, _, _, _, _, ctX10_ledgerLine, h1, h2, mcX10_ledgerLine.1, (xinT 1551 (by decide +kernel) (by decide +kernel)), mcX10_ledgerLine.2.1, ⟨by decide +kernel, by decide +kernel, by decide +kernel⟩, by rw [if_pos rfl]; exact ⟨mcX10_ledgerLine.2.2.1, mcX10_ledgerLine.2.2.2, _, _, rfl⟩⟩
theorem dX10_placeOf_0 : decode cX10_placeOf 0 = .ok (.iload_n 0, 1) := by decide +kernel
theorem dX10_placeOf_1 : decode cX10_placeOf 1 = .ok (.ifCond .ne 14, 3) := by decide +kernel
theorem dX10_placeOf_4 : decode cX10_placeOf 4 = .ok (.sipush 610, 3) := by decide +kernel
theorem dX10_placeOf_7 : decode cX10_placeOf 7 = .ok (.bipush 58, 2) := by decide +kernel
theorem dX10_placeOf_9 : decode cX10_placeOf 9 = .ok (.iload_n 1, 1) := by decide +kernel
theorem dX10_placeOf_10 : decode cX10_placeOf 10 = .ok (.imul, 1) := by decide +kernel
theorem dX10_placeOf_11 : decode cX10_placeOf 11 = .ok (.iadd, 1) := by decide +kernel
theorem dX10_placeOf_12 : decode cX10_placeOf 12 = .ok (.goto 44, 3) := by decide +kernel
theorem dX10_placeOf_15 : decode cX10_placeOf 15 = .ok (.iload_n 0, 1) := by decide +kernel
theorem dX10_placeOf_16 : decode cX10_placeOf 16 = .ok (.iconst 1, 1) := by decide +kernel
theorem dX10_placeOf_17 : decode cX10_placeOf 17 = .ok (.if_icmp .ne 14, 3) := by decide +kernel
theorem dX10_placeOf_20 : decode cX10_placeOf 20 = .ok (.sipush 726, 3) := by decide +kernel
theorem dX10_placeOf_23 : decode cX10_placeOf 23 = .ok (.bipush 49, 2) := by decide +kernel
theorem dX10_placeOf_25 : decode cX10_placeOf 25 = .ok (.iload_n 1, 1) := by decide +kernel
theorem dX10_placeOf_26 : decode cX10_placeOf 26 = .ok (.imul, 1) := by decide +kernel
theorem dX10_placeOf_27 : decode cX10_placeOf 27 = .ok (.iadd, 1) := by decide +kernel
theorem dX10_placeOf_28 : decode cX10_placeOf 28 = .ok (.goto 28, 3) := by decide +kernel
theorem dX10_placeOf_31 : decode cX10_placeOf 31 = .ok (.iload_n 0, 1) := by decide +kernel
theorem dX10_placeOf_32 : decode cX10_placeOf 32 = .ok (.iconst 2, 1) := by decide +kernel
theorem dX10_placeOf_33 : decode cX10_placeOf 33 = .ok (.if_icmp .ne 15, 3) := by decide +kernel
theorem dX10_placeOf_36 : decode cX10_placeOf 36 = .ok (.sipush 873, 3) := by decide +kernel
theorem dX10_placeOf_39 : decode cX10_placeOf 39 = .ok (.sipush 181, 3) := by decide +kernel
theorem dX10_placeOf_42 : decode cX10_placeOf 42 = .ok (.iload_n 1, 1) := by decide +kernel
theorem dX10_placeOf_43 : decode cX10_placeOf 43 = .ok (.imul, 1) := by decide +kernel
theorem dX10_placeOf_44 : decode cX10_placeOf 44 = .ok (.iadd, 1) := by decide +kernel
theorem dX10_placeOf_45 : decode cX10_placeOf 45 = .ok (.goto 11, 3) := by decide +kernel
theorem dX10_placeOf_48 : decode cX10_placeOf 48 = .ok (.sipush 1235, 3) := by decide +kernel
theorem dX10_placeOf_51 : decode cX10_placeOf 51 = .ok (.bipush 41, 2) := by decide +kernel
theorem dX10_placeOf_53 : decode cX10_placeOf 53 = .ok (.iload_n 1, 1) := by decide +kernel
theorem dX10_placeOf_54 : decode cX10_placeOf 54 = .ok (.imul, 1) := by decide +kernel
theorem dX10_placeOf_55 : decode cX10_placeOf 55 = .ok (.iadd, 1) := by decide +kernel
theorem dX10_placeOf_56 : decode cX10_placeOf 56 = .ok (.ireturn, 1) := by decide +kernel
def zX10_placeOf (Qr : Option PV → Mem → Prop) : XZ := (RX10, 0, 0, 2, some FieldType.int, Qr)
noncomputable def fX10_placeOf (x0 : Int) (x1 : Int) : Int :=
  if x0 ≠ 0 then
    if x0 ≠ 1 then
      if x0 ≠ 2 then
        xw (1235 + (xw (41 * x1)))
      else
        xw (873 + (xw (181 * x1)))
    else
      xw (726 + (xw (49 * x1)))
  else
    xw (610 + (xw (58 * x1)))
theorem fX10_placeOf_ok {Qr : Option PV → Mem → Prop} : ∀ (x0 : Int) (x1 : Int) (F : Mem) (res : Int), fX10_placeOf x0 x1 = res → Qr (some (vI res)) F → PR cX10_placeOf (zX10_placeOf Qr) 0 [(0, vI x0), (1, vI x1)] [] F := by
  intro x0 x1 F res  h hq
  refine s_iload_n (j := 0) dX10_placeOf_0 rfl rfl ?_
  refine s_if_ne (tgt := 15) dX10_placeOf_1 rfl (fun hc1 => ?_) (fun hc1 => ?_)
  · have h := ifp hc1 h
    refine s_iload_n (j := 0) dX10_placeOf_15 rfl rfl ?_
    refine s_iconst dX10_placeOf_16 (cin rfl) ?_
    refine s_icmp_ne (tgt := 31) dX10_placeOf_17 rfl (fun hc2 => ?_) (fun hc2 => ?_)
    · have h := ifp hc2 h
      refine s_iload_n (j := 0) dX10_placeOf_31 rfl rfl ?_
      refine s_iconst dX10_placeOf_32 (cin rfl) ?_
      refine s_icmp_ne (tgt := 48) dX10_placeOf_33 rfl (fun hc3 => ?_) (fun hc3 => ?_)
      · have h := ifp hc3 h
        refine s_sipush dX10_placeOf_48 rfl (cin rfl) ?_
        refine s_bipush dX10_placeOf_51 rfl (cin rfl) ?_
        refine s_iload_n (j := 1) dX10_placeOf_53 rfl rfl ?_
        refine s_imul dX10_placeOf_54 ?_
        refine s_iadd dX10_placeOf_55 ?_
        subst h
        exact s_ireturn dX10_placeOf_56 rfl hq
      · have h := ifn hc3 h
        refine s_sipush dX10_placeOf_36 rfl (cin rfl) ?_
        refine s_sipush dX10_placeOf_39 rfl (cin rfl) ?_
        refine s_iload_n (j := 1) dX10_placeOf_42 rfl rfl ?_
        refine s_imul dX10_placeOf_43 ?_
        refine s_iadd dX10_placeOf_44 ?_
        refine s_goto (tgt := 56) dX10_placeOf_45 rfl ?_
        subst h
        exact s_ireturn dX10_placeOf_56 rfl hq
    · have h := ifn hc2 h
      refine s_sipush dX10_placeOf_20 rfl (cin rfl) ?_
      refine s_bipush dX10_placeOf_23 rfl (cin rfl) ?_
      refine s_iload_n (j := 1) dX10_placeOf_25 rfl rfl ?_
      refine s_imul dX10_placeOf_26 ?_
      refine s_iadd dX10_placeOf_27 ?_
      refine s_goto (tgt := 56) dX10_placeOf_28 rfl ?_
      subst h
      exact s_ireturn dX10_placeOf_56 rfl hq
  · have h := ifn hc1 h
    refine s_sipush dX10_placeOf_4 rfl (cin rfl) ?_
    refine s_bipush dX10_placeOf_7 rfl (cin rfl) ?_
    refine s_iload_n (j := 1) dX10_placeOf_9 rfl rfl ?_
    refine s_imul dX10_placeOf_10 ?_
    refine s_iadd dX10_placeOf_11 ?_
    refine s_goto (tgt := 56) dX10_placeOf_12 rfl ?_
    subst h
    exact s_ireturn dX10_placeOf_56 rfl hq
def gX10_placeOf : XG := fun As F r F' => ∃ x0 : Int, ∃ x1 : Int, ∃ res : Int, As = [vI x0, vI x1] ∧ fX10_placeOf x0 x1 = res ∧ r = some (vI res) ∧ F' = F
theorem ctX10_placeOf : xCT yX10_placeOf cX10_placeOf 2 (some FieldType.int) 0 0 gX10_placeOf := xmet (by decide +kernel) (fun As F r F' hg => by obtain ⟨x0, x1, res, rfl, h, rfl, rfl⟩ := hg; exact Nat.le_of_ble_eq_true rfl) (fun As F r F' hg => by obtain ⟨x0, x1, res, rfl, h, rfl, rfl⟩ := hg; exact fX10_placeOf_ok x0 x1 _ _  h ⟨rfl, rfl⟩)
theorem mcX10_placeOf : Cond.code yX10_placeOf cX10_placeOf 2 (some FieldType.int) ∈ xw_T ∧ Cond.initialized yX10_placeOf.cls ∈ xw_T ∧ Cond.static yX10_placeOf ∈ xw_T := ⟨(xinT 1572 (by decide +kernel) (by decide +kernel)), (xinT 127 (by decide +kernel) (by decide +kernel)), (xinT 1571 (by decide +kernel) (by decide +kernel))⟩
theorem clX10_169 {fr lo : Nat} (h1 : 0 + 1 ≤ fr) (h2 : 8 + (2 + 11) + 0 ≤ lo) : xCall RX10 fr lo 1 169 0 2 gX10_placeOf := ⟨_, _, _, _, _, _, ctX10_placeOf, h1, h2, mcX10_placeOf.1, (xinT 1570 (by decide +kernel) (by decide +kernel)), mcX10_placeOf.2.1, ⟨by decide +kernel, by decide +kernel, by decide +kernel⟩, by rw [if_neg (by decide)]; exact mcX10_placeOf.2.2⟩
theorem dX10_sizeOf_0 : decode cX10_sizeOf 0 = .ok (.iload_n 0, 1) := by decide +kernel
theorem dX10_sizeOf_1 : decode cX10_sizeOf 1 = .ok (.ifCond .ne 8, 3) := by decide +kernel
theorem dX10_sizeOf_4 : decode cX10_sizeOf 4 = .ok (.bipush 58, 2) := by decide +kernel
theorem dX10_sizeOf_6 : decode cX10_sizeOf 6 = .ok (.goto 26, 3) := by decide +kernel
theorem dX10_sizeOf_9 : decode cX10_sizeOf 9 = .ok (.iload_n 0, 1) := by decide +kernel
theorem dX10_sizeOf_10 : decode cX10_sizeOf 10 = .ok (.iconst 1, 1) := by decide +kernel
theorem dX10_sizeOf_11 : decode cX10_sizeOf 11 = .ok (.if_icmp .ne 8, 3) := by decide +kernel
theorem dX10_sizeOf_14 : decode cX10_sizeOf 14 = .ok (.bipush 49, 2) := by decide +kernel
theorem dX10_sizeOf_16 : decode cX10_sizeOf 16 = .ok (.goto 16, 3) := by decide +kernel
theorem dX10_sizeOf_19 : decode cX10_sizeOf 19 = .ok (.iload_n 0, 1) := by decide +kernel
theorem dX10_sizeOf_20 : decode cX10_sizeOf 20 = .ok (.iconst 2, 1) := by decide +kernel
theorem dX10_sizeOf_21 : decode cX10_sizeOf 21 = .ok (.if_icmp .ne 9, 3) := by decide +kernel
theorem dX10_sizeOf_24 : decode cX10_sizeOf 24 = .ok (.sipush 181, 3) := by decide +kernel
theorem dX10_sizeOf_27 : decode cX10_sizeOf 27 = .ok (.goto 5, 3) := by decide +kernel
theorem dX10_sizeOf_30 : decode cX10_sizeOf 30 = .ok (.bipush 41, 2) := by decide +kernel
theorem dX10_sizeOf_32 : decode cX10_sizeOf 32 = .ok (.ireturn, 1) := by decide +kernel
def zX10_sizeOf (Qr : Option PV → Mem → Prop) : XZ := (RX10, 0, 0, 1, some FieldType.int, Qr)
noncomputable def fX10_sizeOf (x0 : Int) : Int :=
  if x0 ≠ 0 then
    if x0 ≠ 1 then
      if x0 ≠ 2 then
        41
      else
        181
    else
      49
  else
    58
theorem fX10_sizeOf_ok {Qr : Option PV → Mem → Prop} : ∀ (x0 : Int) (F : Mem) (res : Int), fX10_sizeOf x0 = res → Qr (some (vI res)) F → PR cX10_sizeOf (zX10_sizeOf Qr) 0 [(0, vI x0)] [] F := by
  intro x0 F res  h hq
  refine s_iload_n (j := 0) dX10_sizeOf_0 rfl rfl ?_
  refine s_if_ne (tgt := 9) dX10_sizeOf_1 rfl (fun hc1 => ?_) (fun hc1 => ?_)
  · have h := ifp hc1 h
    refine s_iload_n (j := 0) dX10_sizeOf_9 rfl rfl ?_
    refine s_iconst dX10_sizeOf_10 (cin rfl) ?_
    refine s_icmp_ne (tgt := 19) dX10_sizeOf_11 rfl (fun hc2 => ?_) (fun hc2 => ?_)
    · have h := ifp hc2 h
      refine s_iload_n (j := 0) dX10_sizeOf_19 rfl rfl ?_
      refine s_iconst dX10_sizeOf_20 (cin rfl) ?_
      refine s_icmp_ne (tgt := 30) dX10_sizeOf_21 rfl (fun hc3 => ?_) (fun hc3 => ?_)
      · have h := ifp hc3 h
        refine s_bipush dX10_sizeOf_30 rfl (cin rfl) ?_
        subst h
        exact s_ireturn dX10_sizeOf_32 rfl hq
      · have h := ifn hc3 h
        refine s_sipush dX10_sizeOf_24 rfl (cin rfl) ?_
        refine s_goto (tgt := 32) dX10_sizeOf_27 rfl ?_
        subst h
        exact s_ireturn dX10_sizeOf_32 rfl hq
    · have h := ifn hc2 h
      refine s_bipush dX10_sizeOf_14 rfl (cin rfl) ?_
      refine s_goto (tgt := 32) dX10_sizeOf_16 rfl ?_
      subst h
      exact s_ireturn dX10_sizeOf_32 rfl hq
  · have h := ifn hc1 h
    refine s_bipush dX10_sizeOf_4 rfl (cin rfl) ?_
    refine s_goto (tgt := 32) dX10_sizeOf_6 rfl ?_
    subst h
    exact s_ireturn dX10_sizeOf_32 rfl hq
def gX10_sizeOf : XG := fun As F r F' => ∃ x0 : Int, ∃ res : Int, As = [vI x0] ∧ fX10_sizeOf x0 = res ∧ r = some (vI res) ∧ F' = F
theorem ctX10_sizeOf : xCT yX10_sizeOf cX10_sizeOf 1 (some FieldType.int) 0 0 gX10_sizeOf := xmet (by decide +kernel) (fun As F r F' hg => by obtain ⟨x0, res, rfl, h, rfl, rfl⟩ := hg; exact Nat.le_of_ble_eq_true rfl) (fun As F r F' hg => by obtain ⟨x0, res, rfl, h, rfl, rfl⟩ := hg; exact fX10_sizeOf_ok x0 _ _  h ⟨rfl, rfl⟩)
theorem mcX10_sizeOf : Cond.code yX10_sizeOf cX10_sizeOf 1 (some FieldType.int) ∈ xw_T ∧ Cond.initialized yX10_sizeOf.cls ∈ xw_T ∧ Cond.static yX10_sizeOf ∈ xw_T := ⟨(xinT 1569 (by decide +kernel) (by decide +kernel)), (xinT 127 (by decide +kernel) (by decide +kernel)), (xinT 1568 (by decide +kernel) (by decide +kernel))⟩
theorem clX10_166 {fr lo : Nat} (h1 : 0 + 1 ≤ fr) (h2 : 8 + (1 + 11) + 0 ≤ lo) : xCall RX10 fr lo 1 166 0 1 gX10_sizeOf := ⟨_, _, _, _, _, _, ctX10_sizeOf, h1, h2, mcX10_sizeOf.1, (xinT 1567 (by decide +kernel) (by decide +kernel)), mcX10_sizeOf.2.1, ⟨by decide +kernel, by decide +kernel, by decide +kernel⟩, by rw [if_neg (by decide)]; exact mcX10_sizeOf.2.2⟩
theorem dX10_isOf_0 : decode cX10_isOf 0 = .ok (.iload_n 2, 1) := by decide +kernel
theorem dX10_isOf_1 : decode cX10_isOf 1 = .ok (.iconst 0, 1) := by decide +kernel
theorem dX10_isOf_2 : decode cX10_isOf 2 = .ok (.aload_n 0, 1) := by decide +kernel
theorem dX10_isOf_3 : decode cX10_isOf 3 = .ok (.getfield 7, 3) := by decide +kernel
theorem dX10_isOf_6 : decode cX10_isOf 6 = .ok (.iload_n 1, 1) := by decide +kernel
theorem dX10_isOf_7 : decode cX10_isOf 7 = .ok (.iaload, 1) := by decide +kernel
theorem dX10_isOf_8 : decode cX10_isOf 8 = .ok (.iconst 1, 1) := by decide +kernel
theorem dX10_isOf_9 : decode cX10_isOf 9 = .ok (.isub, 1) := by decide +kernel
theorem dX10_isOf_10 : decode cX10_isOf 10 = .ok (.invokestatic 115, 3) := by decide +kernel
theorem dX10_isOf_13 : decode cX10_isOf 13 = .ok (.ireturn, 1) := by decide +kernel
def zX10_isOf (Qr : Option PV → Mem → Prop) : XZ := (RX10, 1, 22, 3, some FieldType.boolean, Qr)
noncomputable def fX10_isOf (o : Nat) (x1 : Int) (x2 : Int) (F : Mem) : Option Int :=
  if (0 : Int) ≤ x1 ∧ x1 < (alen (o + 1) : Int) then
    if (fX10_isIn x2 0 (xw ((F (o + 1) x1.toNat) - 1))) = 0 ∨ (fX10_isIn x2 0 (xw ((F (o + 1) x1.toNat) - 1))) = 1 then
      some (fX10_isIn x2 0 (xw ((F (o + 1) x1.toNat) - 1)))
    else none
  else none
theorem fX10_isOf_ok {Qr : Option PV → Mem → Prop} : ∀ (o : Nat) (x1 : Int) (x2 : Int) (F : Mem) (res : Int) (ho : isK o 10), fX10_isOf o x1 x2 F = some res → Qr (some (vI res)) F → PR cX10_isOf (zX10_isOf Qr) 0 [(0, vR o), (1, vI x1), (2, vI x2)] [] F := by
  intro o x1 x2 F res ho h hq
  refine s_iload_n (j := 2) dX10_isOf_0 rfl rfl ?_
  refine s_iconst dX10_isOf_1 (cin rfl) ?_
  refine s_aload_n (j := 0) dX10_isOf_2 rfl rfl ?_
  refine s_getR dX10_isOf_3 flX10_7 ho ?_
  refine s_iload_n (j := 1) dX10_isOf_6 rfl rfl ?_
  obtain ⟨hb1, h⟩ := gd h
  refine s_iaload dX10_isOf_7 (trX10_0 ho) hb1.1 hb1.2 ?_
  refine s_iconst dX10_isOf_8 (cin rfl) ?_
  refine s_isub dX10_isOf_9 ?_
  refine s_callS (As := [vI x2, vI 0, vI (xw ((F (o + 1) x1.toNat) - 1))]) (rest := []) (r := (some (vI (fX10_isIn x2 0 (xw ((F (o + 1) x1.toNat) - 1)))))) (F' := F) dX10_isOf_10 (clX10_115 (Nat.le_of_ble_eq_true rfl) (Nat.le_of_ble_eq_true rfl)) rfl ⟨_, _, _, _, rfl, rfl, rfl, rfl⟩ rfl (Nat.le_of_ble_eq_true rfl) ?_
  obtain ⟨hb2, h⟩ := gd h
  have h := Option.some.inj h
  subst h
  exact s_zreturn dX10_isOf_13 rfl hb2 hq
def gX10_isOf : XG := fun As F r F' => ∃ o : Nat, ∃ x1 : Int, ∃ x2 : Int, ∃ res : Int, As = [vR o, vI x1, vI x2] ∧ isK o 10 ∧ fX10_isOf o x1 x2 F = some res ∧ r = some (vI res) ∧ F' = F
theorem ctX10_isOf : xCT yX10_isOf cX10_isOf 3 (some FieldType.boolean) 1 22 gX10_isOf := xmet (by decide +kernel) (fun As F r F' hg => by obtain ⟨o, x1, x2, res, rfl, ho, h, rfl, rfl⟩ := hg; exact Nat.le_of_ble_eq_true rfl) (fun As F r F' hg => by obtain ⟨o, x1, x2, res, rfl, ho, h, rfl, rfl⟩ := hg; exact fX10_isOf_ok o x1 x2 _ _ ho h ⟨rfl, rfl⟩)
theorem mcX10_isOf : Cond.code yX10_isOf cX10_isOf 3 (some FieldType.boolean) ∈ xw_T ∧ Cond.initialized yX10_isOf.cls ∈ xw_T ∧ Cond.instanceMethod yX10_isOf ∈ xw_T ∧ Cond.selects yX10_isOf.cls yX10_isOf yX10_isOf ∈ xw_T := ⟨(xinT 1490 (by decide +kernel) (by decide +kernel)), (xinT 127 (by decide +kernel) (by decide +kernel)), (xinT 1489 (by decide +kernel) (by decide +kernel)), (xinT 40 (by decide +kernel) (by decide +kernel))⟩
theorem clX10_146 {fr lo : Nat} (h1 : 1 + 1 ≤ fr) (h2 : 8 + (3 + 11) + 22 ≤ lo) : xCall RX10 fr lo 0 146 10 2 gX10_isOf := ⟨_, _, _, _, _, _, ctX10_isOf, h1, h2, mcX10_isOf.1, (xinT 1487 (by decide +kernel) (by decide +kernel)), mcX10_isOf.2.1, ⟨by decide +kernel, by decide +kernel, by decide +kernel⟩, by rw [if_pos rfl]; exact ⟨mcX10_isOf.2.2.1, mcX10_isOf.2.2.2, _, _, rfl⟩⟩
theorem dX10_isValley_0 : decode cX10_isValley 0 = .ok (.aload_n 0, 1) := by decide +kernel
theorem dX10_isValley_1 : decode cX10_isValley 1 = .ok (.getfield 17, 3) := by decide +kernel
theorem dX10_isValley_4 : decode cX10_isValley 4 = .ok (.iconst 4, 1) := by decide +kernel
theorem dX10_isValley_5 : decode cX10_isValley 5 = .ok (.iaload, 1) := by decide +kernel
theorem dX10_isValley_6 : decode cX10_isValley 6 = .ok (.aload_n 0, 1) := by decide +kernel
theorem dX10_isValley_7 : decode cX10_isValley 7 = .ok (.getfield 17, 3) := by decide +kernel
theorem dX10_isValley_10 : decode cX10_isValley 10 = .ok (.iconst 5, 1) := by decide +kernel
theorem dX10_isValley_11 : decode cX10_isValley 11 = .ok (.iaload, 1) := by decide +kernel
theorem dX10_isValley_12 : decode cX10_isValley 12 = .ok (.if_icmp .ge 7, 3) := by decide +kernel
theorem dX10_isValley_15 : decode cX10_isValley 15 = .ok (.iconst 1, 1) := by decide +kernel
theorem dX10_isValley_16 : decode cX10_isValley 16 = .ok (.goto 4, 3) := by decide +kernel
theorem dX10_isValley_19 : decode cX10_isValley 19 = .ok (.iconst 0, 1) := by decide +kernel
theorem dX10_isValley_20 : decode cX10_isValley 20 = .ok (.istore_n 1, 1) := by decide +kernel
theorem dX10_isValley_21 : decode cX10_isValley 21 = .ok (.iconst 0, 1) := by decide +kernel
theorem dX10_isValley_22 : decode cX10_isValley 22 = .ok (.istore_n 2, 1) := by decide +kernel
theorem dX10_isValley_23 : decode cX10_isValley 23 = .ok (.iload_n 2, 1) := by decide +kernel
theorem dX10_isValley_24 : decode cX10_isValley 24 = .ok (.aload_n 0, 1) := by decide +kernel
theorem dX10_isValley_25 : decode cX10_isValley 25 = .ok (.getfield 17, 3) := by decide +kernel
theorem dX10_isValley_28 : decode cX10_isValley 28 = .ok (.bipush 6, 2) := by decide +kernel
theorem dX10_isValley_30 : decode cX10_isValley 30 = .ok (.iaload, 1) := by decide +kernel
theorem dX10_isValley_31 : decode cX10_isValley 31 = .ok (.if_icmp .ge 61, 3) := by decide +kernel
theorem dX10_isValley_34 : decode cX10_isValley 34 = .ok (.iload_n 1, 1) := by decide +kernel
theorem dX10_isValley_35 : decode cX10_isValley 35 = .ok (.ifCond .eq 49, 3) := by decide +kernel
theorem dX10_isValley_38 : decode cX10_isValley 38 = .ok (.aload_n 0, 1) := by decide +kernel
theorem dX10_isValley_39 : decode cX10_isValley 39 = .ok (.getfield 17, 3) := by decide +kernel
theorem dX10_isValley_42 : decode cX10_isValley 42 = .ok (.bipush 40, 2) := by decide +kernel
theorem dX10_isValley_44 : decode cX10_isValley 44 = .ok (.iconst 3, 1) := by decide +kernel
theorem dX10_isValley_45 : decode cX10_isValley 45 = .ok (.iload_n 2, 1) := by decide +kernel
theorem dX10_isValley_46 : decode cX10_isValley 46 = .ok (.imul, 1) := by decide +kernel
theorem dX10_isValley_47 : decode cX10_isValley 47 = .ok (.iadd, 1) := by decide +kernel
theorem dX10_isValley_48 : decode cX10_isValley 48 = .ok (.iaload, 1) := by decide +kernel
theorem dX10_isValley_49 : decode cX10_isValley 49 = .ok (.aload_n 0, 1) := by decide +kernel
theorem dX10_isValley_50 : decode cX10_isValley 50 = .ok (.getfield 17, 3) := by decide +kernel
theorem dX10_isValley_53 : decode cX10_isValley 53 = .ok (.iconst 5, 1) := by decide +kernel
theorem dX10_isValley_54 : decode cX10_isValley 54 = .ok (.iaload, 1) := by decide +kernel
theorem dX10_isValley_55 : decode cX10_isValley 55 = .ok (.if_icmp .ge 29, 3) := by decide +kernel
theorem dX10_isValley_58 : decode cX10_isValley 58 = .ok (.aload_n 0, 1) := by decide +kernel
theorem dX10_isValley_59 : decode cX10_isValley 59 = .ok (.getfield 17, 3) := by decide +kernel
theorem dX10_isValley_62 : decode cX10_isValley 62 = .ok (.bipush 40, 2) := by decide +kernel
theorem dX10_isValley_64 : decode cX10_isValley 64 = .ok (.iconst 3, 1) := by decide +kernel
theorem dX10_isValley_65 : decode cX10_isValley 65 = .ok (.iload_n 2, 1) := by decide +kernel
theorem dX10_isValley_66 : decode cX10_isValley 66 = .ok (.imul, 1) := by decide +kernel
theorem dX10_isValley_67 : decode cX10_isValley 67 = .ok (.iadd, 1) := by decide +kernel
theorem dX10_isValley_68 : decode cX10_isValley 68 = .ok (.iconst 2, 1) := by decide +kernel
theorem dX10_isValley_69 : decode cX10_isValley 69 = .ok (.iadd, 1) := by decide +kernel
theorem dX10_isValley_70 : decode cX10_isValley 70 = .ok (.iaload, 1) := by decide +kernel
theorem dX10_isValley_71 : decode cX10_isValley 71 = .ok (.aload_n 0, 1) := by decide +kernel
theorem dX10_isValley_72 : decode cX10_isValley 72 = .ok (.getfield 17, 3) := by decide +kernel
theorem dX10_isValley_75 : decode cX10_isValley 75 = .ok (.iconst 0, 1) := by decide +kernel
theorem dX10_isValley_76 : decode cX10_isValley 76 = .ok (.iaload, 1) := by decide +kernel
theorem dX10_isValley_77 : decode cX10_isValley 77 = .ok (.if_icmp .gt 7, 3) := by decide +kernel
theorem dX10_isValley_80 : decode cX10_isValley 80 = .ok (.iconst 1, 1) := by decide +kernel
theorem dX10_isValley_81 : decode cX10_isValley 81 = .ok (.goto 4, 3) := by decide +kernel
theorem dX10_isValley_84 : decode cX10_isValley 84 = .ok (.iconst 0, 1) := by decide +kernel
theorem dX10_isValley_85 : decode cX10_isValley 85 = .ok (.istore_n 1, 1) := by decide +kernel
theorem dX10_isValley_86 : decode cX10_isValley 86 = .ok (.iinc 2 1, 3) := by decide +kernel
theorem dX10_isValley_89 : decode cX10_isValley 89 = .ok (.goto (-66), 3) := by decide +kernel
theorem dX10_isValley_92 : decode cX10_isValley 92 = .ok (.iload_n 1, 1) := by decide +kernel
theorem dX10_isValley_93 : decode cX10_isValley 93 = .ok (.ireturn, 1) := by decide +kernel
def zX10_isValley (Qr : Option PV → Mem → Prop) : XZ := (RX10, 0, 0, 3, some FieldType.boolean, Qr)
noncomputable def fX10_isValley_b23 (F : Mem) : Nat → Nat → Int → Int → Option Int
  | 0, _, _, _ => none
  | n + 1, o, x1, x2 =>
    if (0 : Int) ≤ 6 ∧ 6 < (alen (o + 3) : Int) then
      if (F (o + 3) 6) ≤ x2 then
        if x1 = 0 ∨ x1 = 1 then
          some x1
        else none
      else
        if x1 = 0 then
          fX10_isValley_b23 F n o 0 (xw (x2 + 1))
        else
          if (0 : Int) ≤ (xw (40 + (xw (3 * x2)))) ∧ (xw (40 + (xw (3 * x2)))) < (alen (o + 3) : Int) then
            if (0 : Int) ≤ 5 ∧ 5 < (alen (o + 3) : Int) then
              if (F (o + 3) 5) ≤ (F (o + 3) (xw (40 + (xw (3 * x2)))).toNat) then
                fX10_isValley_b23 F n o 0 (xw (x2 + 1))
              else
                if (0 : Int) ≤ (xw ((xw (40 + (xw (3 * x2)))) + 2)) ∧ (xw ((xw (40 + (xw (3 * x2)))) + 2)) < (alen (o + 3) : Int) then
                  if (0 : Int) ≤ 0 ∧ 0 < (alen (o + 3) : Int) then
                    if (F (o + 3) 0) < (F (o + 3) (xw ((xw (40 + (xw (3 * x2)))) + 2)).toNat) then
                      fX10_isValley_b23 F n o 0 (xw (x2 + 1))
                    else
                      fX10_isValley_b23 F n o 1 (xw (x2 + 1))
                  else none
                else none
            else none
          else none
    else none
noncomputable def fX10_isValley (o : Nat) (F : Mem) : Option Int :=
  if (0 : Int) ≤ 4 ∧ 4 < (alen (o + 3) : Int) then
    if (0 : Int) ≤ 5 ∧ 5 < (alen (o + 3) : Int) then
      if (F (o + 3) 5) ≤ (F (o + 3) 4) then
        fX10_isValley_b23 F FU o 0 0
      else
        fX10_isValley_b23 F FU o 1 0
    else none
  else none
theorem fX10_isValley_b23_ok {Qr : Option PV → Mem → Prop}  (F : Mem) : ∀ (n : Nat) (o : Nat) (x1 : Int) (x2 : Int) (res : Int) (ho : isK o 10), fX10_isValley_b23 F n o x1 x2 = some res → Qr (some (vI res)) F → PR cX10_isValley (zX10_isValley Qr) 23 [(0, vR o), (1, vI x1), (2, vI x2)] [] F := by
  intro n
  induction n with
  | zero => intro o x1 x2 res ho h hq; exact nomatch (show (none : Option _) = some _ from h)
  | succ n ih =>
    intro o x1 x2 res ho h hq
    refine s_iload_n (j := 2) dX10_isValley_23 rfl rfl ?_
    refine s_aload_n (j := 0) dX10_isValley_24 rfl rfl ?_
    refine s_getR dX10_isValley_25 flX10_17 ho ?_
    refine s_bipush dX10_isValley_28 rfl (cin rfl) ?_
    obtain ⟨hb1, h⟩ := gd h
    refine s_iaload dX10_isValley_30 (trX10_9 ho) hb1.1 hb1.2 ?_
    refine s_icmp_ge (tgt := 92) dX10_isValley_31 rfl (fun hc2 => ?_) (fun hc2 => ?_)
    · have h := ifp hc2 h
      refine s_iload_n (j := 1) dX10_isValley_92 rfl rfl ?_
      obtain ⟨hb3, h⟩ := gd h
      have h := Option.some.inj h
      subst h
      exact s_zreturn dX10_isValley_93 rfl hb3 hq
    · have h := ifn hc2 h
      refine s_iload_n (j := 1) dX10_isValley_34 rfl rfl ?_
      refine s_if_eq (tgt := 84) dX10_isValley_35 rfl (fun hc4 => ?_) (fun hc4 => ?_)
      · have h := ifp hc4 h
        refine s_iconst dX10_isValley_84 (cin rfl) ?_
        refine s_istore_n (ls' := [(1, vI 0), (0, vR o), (2, vI x2)]) dX10_isValley_85 rfl (Nat.le_of_ble_eq_true rfl) rfl ?_
        refine s_iinc (j := 2) dX10_isValley_86 rfl (Nat.le_of_ble_eq_true rfl) rfl ?_
        refine s_goto (tgt := 23) dX10_isValley_89 rfl ?_
        exact s_sub (ks := [2, 1, 0]) rfl (ih o 0 (xw (x2 + 1)) _ ho h hq)
      · have h := ifn hc4 h
        refine s_aload_n (j := 0) dX10_isValley_38 rfl rfl ?_
        refine s_getR dX10_isValley_39 flX10_17 ho ?_
        refine s_bipush dX10_isValley_42 rfl (cin rfl) ?_
        refine s_iconst dX10_isValley_44 (cin rfl) ?_
        refine s_iload_n (j := 2) dX10_isValley_45 rfl rfl ?_
        refine s_imul dX10_isValley_46 ?_
        refine s_iadd dX10_isValley_47 ?_
        obtain ⟨hb5, h⟩ := gd h
        refine s_iaload dX10_isValley_48 (trX10_9 ho) hb5.1 hb5.2 ?_
        refine s_aload_n (j := 0) dX10_isValley_49 rfl rfl ?_
        refine s_getR dX10_isValley_50 flX10_17 ho ?_
        refine s_iconst dX10_isValley_53 (cin rfl) ?_
        obtain ⟨hb6, h⟩ := gd h
        refine s_iaload dX10_isValley_54 (trX10_9 ho) hb6.1 hb6.2 ?_
        refine s_icmp_ge (tgt := 84) dX10_isValley_55 rfl (fun hc7 => ?_) (fun hc7 => ?_)
        · have h := ifp hc7 h
          refine s_iconst dX10_isValley_84 (cin rfl) ?_
          refine s_istore_n (ls' := [(1, vI 0), (0, vR o), (2, vI x2)]) dX10_isValley_85 rfl (Nat.le_of_ble_eq_true rfl) rfl ?_
          refine s_iinc (j := 2) dX10_isValley_86 rfl (Nat.le_of_ble_eq_true rfl) rfl ?_
          refine s_goto (tgt := 23) dX10_isValley_89 rfl ?_
          exact s_sub (ks := [2, 1, 0]) rfl (ih o 0 (xw (x2 + 1)) _ ho h hq)
        · have h := ifn hc7 h
          refine s_aload_n (j := 0) dX10_isValley_58 rfl rfl ?_
          refine s_getR dX10_isValley_59 flX10_17 ho ?_
          refine s_bipush dX10_isValley_62 rfl (cin rfl) ?_
          refine s_iconst dX10_isValley_64 (cin rfl) ?_
          refine s_iload_n (j := 2) dX10_isValley_65 rfl rfl ?_
          refine s_imul dX10_isValley_66 ?_
          refine s_iadd dX10_isValley_67 ?_
          refine s_iconst dX10_isValley_68 (cin rfl) ?_
          refine s_iadd dX10_isValley_69 ?_
          obtain ⟨hb8, h⟩ := gd h
          refine s_iaload dX10_isValley_70 (trX10_9 ho) hb8.1 hb8.2 ?_
          refine s_aload_n (j := 0) dX10_isValley_71 rfl rfl ?_
          refine s_getR dX10_isValley_72 flX10_17 ho ?_
          refine s_iconst dX10_isValley_75 (cin rfl) ?_
          obtain ⟨hb9, h⟩ := gd h
          refine s_iaload dX10_isValley_76 (trX10_9 ho) hb9.1 hb9.2 ?_
          refine s_icmp_gt (tgt := 84) dX10_isValley_77 rfl (fun hc10 => ?_) (fun hc10 => ?_)
          · have h := ifp hc10 h
            refine s_iconst dX10_isValley_84 (cin rfl) ?_
            refine s_istore_n (ls' := [(1, vI 0), (0, vR o), (2, vI x2)]) dX10_isValley_85 rfl (Nat.le_of_ble_eq_true rfl) rfl ?_
            refine s_iinc (j := 2) dX10_isValley_86 rfl (Nat.le_of_ble_eq_true rfl) rfl ?_
            refine s_goto (tgt := 23) dX10_isValley_89 rfl ?_
            exact s_sub (ks := [2, 1, 0]) rfl (ih o 0 (xw (x2 + 1)) _ ho h hq)
          · have h := ifn hc10 h
            refine s_iconst dX10_isValley_80 (cin rfl) ?_
            refine s_goto (tgt := 85) dX10_isValley_81 rfl ?_
            refine s_istore_n (ls' := [(1, vI 1), (0, vR o), (2, vI x2)]) dX10_isValley_85 rfl (Nat.le_of_ble_eq_true rfl) rfl ?_
            refine s_iinc (j := 2) dX10_isValley_86 rfl (Nat.le_of_ble_eq_true rfl) rfl ?_
            refine s_goto (tgt := 23) dX10_isValley_89 rfl ?_
            exact s_sub (ks := [2, 1, 0]) rfl (ih o 1 (xw (x2 + 1)) _ ho h hq)
theorem fX10_isValley_ok {Qr : Option PV → Mem → Prop} : ∀ (o : Nat) (F : Mem) (res : Int) (ho : isK o 10), fX10_isValley o F = some res → Qr (some (vI res)) F → PR cX10_isValley (zX10_isValley Qr) 0 [(0, vR o)] [] F := by
  intro o F res ho h hq
  refine s_aload_n (j := 0) dX10_isValley_0 rfl rfl ?_
  refine s_getR dX10_isValley_1 flX10_17 ho ?_
  refine s_iconst dX10_isValley_4 (cin rfl) ?_
  obtain ⟨hb1, h⟩ := gd h
  refine s_iaload dX10_isValley_5 (trX10_9 ho) hb1.1 hb1.2 ?_
  refine s_aload_n (j := 0) dX10_isValley_6 rfl rfl ?_
  refine s_getR dX10_isValley_7 flX10_17 ho ?_
  refine s_iconst dX10_isValley_10 (cin rfl) ?_
  obtain ⟨hb2, h⟩ := gd h
  refine s_iaload dX10_isValley_11 (trX10_9 ho) hb2.1 hb2.2 ?_
  refine s_icmp_ge (tgt := 19) dX10_isValley_12 rfl (fun hc3 => ?_) (fun hc3 => ?_)
  · have h := ifp hc3 h
    refine s_iconst dX10_isValley_19 (cin rfl) ?_
    refine s_istore_n (ls' := [(1, vI 0), (0, vR o)]) dX10_isValley_20 rfl (Nat.le_of_ble_eq_true rfl) rfl ?_
    refine s_iconst dX10_isValley_21 (cin rfl) ?_
    refine s_istore_n dX10_isValley_22 rfl (Nat.le_of_ble_eq_true rfl) rfl ?_
    exact s_sub (ks := [2, 1, 0]) rfl (fX10_isValley_b23_ok F FU o 0 0 _ ho h hq)
  · have h := ifn hc3 h
    refine s_iconst dX10_isValley_15 (cin rfl) ?_
    refine s_goto (tgt := 20) dX10_isValley_16 rfl ?_
    refine s_istore_n (ls' := [(1, vI 1), (0, vR o)]) dX10_isValley_20 rfl (Nat.le_of_ble_eq_true rfl) rfl ?_
    refine s_iconst dX10_isValley_21 (cin rfl) ?_
    refine s_istore_n dX10_isValley_22 rfl (Nat.le_of_ble_eq_true rfl) rfl ?_
    exact s_sub (ks := [2, 1, 0]) rfl (fX10_isValley_b23_ok F FU o 1 0 _ ho h hq)
def gX10_isValley : XG := fun As F r F' => ∃ o : Nat, ∃ res : Int, As = [vR o] ∧ isK o 10 ∧ fX10_isValley o F = some res ∧ r = some (vI res) ∧ F' = F
theorem ctX10_isValley : xCT yX10_isValley cX10_isValley 3 (some FieldType.boolean) 0 0 gX10_isValley := xmet (by decide +kernel) (fun As F r F' hg => by obtain ⟨o, res, rfl, ho, h, rfl, rfl⟩ := hg; exact Nat.le_of_ble_eq_true rfl) (fun As F r F' hg => by obtain ⟨o, res, rfl, ho, h, rfl, rfl⟩ := hg; exact fX10_isValley_ok o _ _ ho h ⟨rfl, rfl⟩)
theorem mcX10_isValley : Cond.code yX10_isValley cX10_isValley 3 (some FieldType.boolean) ∈ xw_T ∧ Cond.initialized yX10_isValley.cls ∈ xw_T ∧ Cond.instanceMethod yX10_isValley ∈ xw_T ∧ Cond.selects yX10_isValley.cls yX10_isValley yX10_isValley ∈ xw_T := ⟨(xinT 1566 (by decide +kernel) (by decide +kernel)), (xinT 127 (by decide +kernel) (by decide +kernel)), (xinT 1565 (by decide +kernel) (by decide +kernel)), (xinT 55 (by decide +kernel) (by decide +kernel))⟩
theorem clX10_162 {fr lo : Nat} (h1 : 0 + 1 ≤ fr) (h2 : 8 + (3 + 11) + 0 ≤ lo) : xCall RX10 fr lo 0 162 10 0 gX10_isValley := ⟨_, _, _, _, _, _, ctX10_isValley, h1, h2, mcX10_isValley.1, (xinT 1563 (by decide +kernel) (by decide +kernel)), mcX10_isValley.2.1, ⟨by decide +kernel, by decide +kernel, by decide +kernel⟩, by rw [if_pos rfl]; exact ⟨mcX10_isValley.2.2.1, mcX10_isValley.2.2.2, _, _, rfl⟩⟩
theorem dX10_text_0 : decode cX10_text 0 = .ok (.aload_n 0, 1) := by decide +kernel
theorem dX10_text_1 : decode cX10_text 1 = .ok (.aload_n 0, 1) := by decide +kernel
theorem dX10_text_2 : decode cX10_text 2 = .ok (.getfield 7, 3) := by decide +kernel
theorem dX10_text_5 : decode cX10_text 5 = .ok (.bipush 6, 2) := by decide +kernel
theorem dX10_text_7 : decode cX10_text 7 = .ok (.iaload, 1) := by decide +kernel
theorem dX10_text_8 : decode cX10_text 8 = .ok (.putfield 68, 3) := by decide +kernel
theorem dX10_text_11 : decode cX10_text 11 = .ok (.aload_n 0, 1) := by decide +kernel
theorem dX10_text_12 : decode cX10_text 12 = .ok (.getfield 7, 3) := by decide +kernel
theorem dX10_text_15 : decode cX10_text 15 = .ok (.bipush 6, 2) := by decide +kernel
theorem dX10_text_17 : decode cX10_text 17 = .ok (.iconst 0, 1) := by decide +kernel
theorem dX10_text_18 : decode cX10_text 18 = .ok (.iastore, 1) := by decide +kernel
theorem dX10_text_19 : decode cX10_text 19 = .ok (.aload_n 0, 1) := by decide +kernel
theorem dX10_text_20 : decode cX10_text 20 = .ok (.getfield 7, 3) := by decide +kernel
theorem dX10_text_23 : decode cX10_text 23 = .ok (.bipush 7, 2) := by decide +kernel
theorem dX10_text_25 : decode cX10_text 25 = .ok (.iconst 0, 1) := by decide +kernel
theorem dX10_text_26 : decode cX10_text 26 = .ok (.iastore, 1) := by decide +kernel
theorem dX10_text_27 : decode cX10_text 27 = .ok (.aload_n 0, 1) := by decide +kernel
theorem dX10_text_28 : decode cX10_text 28 = .ok (.getfield 7, 3) := by decide +kernel
theorem dX10_text_31 : decode cX10_text 31 = .ok (.bipush 8, 2) := by decide +kernel
theorem dX10_text_33 : decode cX10_text 33 = .ok (.iconst (-1), 1) := by decide +kernel
theorem dX10_text_34 : decode cX10_text 34 = .ok (.iastore, 1) := by decide +kernel
theorem dX10_text_35 : decode cX10_text 35 = .ok (.iload_n 1, 1) := by decide +kernel
theorem dX10_text_36 : decode cX10_text 36 = .ok (.iconst 0, 1) := by decide +kernel
theorem dX10_text_37 : decode cX10_text 37 = .ok (.iconst 3, 1) := by decide +kernel
theorem dX10_text_38 : decode cX10_text 38 = .ok (.invokestatic 115, 3) := by decide +kernel
theorem dX10_text_41 : decode cX10_text 41 = .ok (.ifCond .eq 39, 3) := by decide +kernel
theorem dX10_text_44 : decode cX10_text 44 = .ok (.iload_n 2, 1) := by decide +kernel
theorem dX10_text_45 : decode cX10_text 45 = .ok (.iconst (-1), 1) := by decide +kernel
theorem dX10_text_46 : decode cX10_text 46 = .ok (.if_icmp .ne 25, 3) := by decide +kernel
theorem dX10_text_49 : decode cX10_text 49 = .ok (.aload_n 0, 1) := by decide +kernel
theorem dX10_text_50 : decode cX10_text 50 = .ok (.getfield 7, 3) := by decide +kernel
theorem dX10_text_53 : decode cX10_text 53 = .ok (.iload_n 1, 1) := by decide +kernel
theorem dX10_text_54 : decode cX10_text 54 = .ok (.iaload, 1) := by decide +kernel
theorem dX10_text_55 : decode cX10_text 55 = .ok (.iload_n 1, 1) := by decide +kernel
theorem dX10_text_56 : decode cX10_text 56 = .ok (.iconst 1, 1) := by decide +kernel
theorem dX10_text_57 : decode cX10_text 57 = .ok (.if_icmp .ne 7, 3) := by decide +kernel
theorem dX10_text_60 : decode cX10_text 60 = .ok (.iconst 3, 1) := by decide +kernel
theorem dX10_text_61 : decode cX10_text 61 = .ok (.goto 4, 3) := by decide +kernel
theorem dX10_text_64 : decode cX10_text 64 = .ok (.iconst 2, 1) := by decide +kernel
theorem dX10_text_65 : decode cX10_text 65 = .ok (.if_icmp .lt 18, 3) := by decide +kernel
theorem dX10_text_68 : decode cX10_text 68 = .ok (.goto 12, 3) := by decide +kernel
theorem dX10_text_71 : decode cX10_text 71 = .ok (.aload_n 0, 1) := by decide +kernel
theorem dX10_text_72 : decode cX10_text 72 = .ok (.iload_n 1, 1) := by decide +kernel
theorem dX10_text_73 : decode cX10_text 73 = .ok (.iload_n 2, 1) := by decide +kernel
theorem dX10_text_74 : decode cX10_text 74 = .ok (.invokevirtual 146, 3) := by decide +kernel
theorem dX10_text_77 : decode cX10_text 77 = .ok (.ifCond .ne 6, 3) := by decide +kernel
theorem dX10_text_80 : decode cX10_text 80 = .ok (.bipush (-2), 2) := by decide +kernel
theorem dX10_text_82 : decode cX10_text 82 = .ok (.ireturn, 1) := by decide +kernel
theorem dX10_text_83 : decode cX10_text 83 = .ok (.aload_n 0, 1) := by decide +kernel
theorem dX10_text_84 : decode cX10_text 84 = .ok (.iconst 0, 1) := by decide +kernel
theorem dX10_text_85 : decode cX10_text 85 = .ok (.putfield 80, 3) := by decide +kernel
theorem dX10_text_88 : decode cX10_text 88 = .ok (.aload_n 0, 1) := by decide +kernel
theorem dX10_text_89 : decode cX10_text 89 = .ok (.iconst 0, 1) := by decide +kernel
theorem dX10_text_90 : decode cX10_text 90 = .ok (.putfield 109, 3) := by decide +kernel
theorem dX10_text_93 : decode cX10_text 93 = .ok (.iconst 0, 1) := by decide +kernel
theorem dX10_text_94 : decode cX10_text 94 = .ok (.istore_n 3, 1) := by decide +kernel
theorem dX10_text_95 : decode cX10_text 95 = .ok (.iload_n 3, 1) := by decide +kernel
theorem dX10_text_96 : decode cX10_text 96 = .ok (.sipush 200, 3) := by decide +kernel
theorem dX10_text_99 : decode cX10_text 99 = .ok (.if_icmp .ge 16, 3) := by decide +kernel
theorem dX10_text_102 : decode cX10_text 102 = .ok (.aload_n 0, 1) := by decide +kernel
theorem dX10_text_103 : decode cX10_text 103 = .ok (.getfield 17, 3) := by decide +kernel
theorem dX10_text_106 : decode cX10_text 106 = .ok (.iload_n 3, 1) := by decide +kernel
theorem dX10_text_107 : decode cX10_text 107 = .ok (.iconst 0, 1) := by decide +kernel
theorem dX10_text_108 : decode cX10_text 108 = .ok (.iastore, 1) := by decide +kernel
theorem dX10_text_109 : decode cX10_text 109 = .ok (.iinc 3 1, 3) := by decide +kernel
theorem dX10_text_112 : decode cX10_text 112 = .ok (.goto (-17), 3) := by decide +kernel
theorem dX10_text_115 : decode cX10_text 115 = .ok (.iload_n 1, 1) := by decide +kernel
theorem dX10_text_116 : decode cX10_text 116 = .ok (.ifCond .ne 27, 3) := by decide +kernel
theorem dX10_text_119 : decode cX10_text 119 = .ok (.aload_n 0, 1) := by decide +kernel
theorem dX10_text_120 : decode cX10_text 120 = .ok (.getfield 17, 3) := by decide +kernel
theorem dX10_text_123 : decode cX10_text 123 = .ok (.iconst 0, 1) := by decide +kernel
theorem dX10_text_124 : decode cX10_text 124 = .ok (.bipush 24, 2) := by decide +kernel
theorem dX10_text_126 : decode cX10_text 126 = .ok (.iastore, 1) := by decide +kernel
theorem dX10_text_127 : decode cX10_text 127 = .ok (.aload_n 0, 1) := by decide +kernel
theorem dX10_text_128 : decode cX10_text 128 = .ok (.getfield 17, 3) := by decide +kernel
theorem dX10_text_131 : decode cX10_text 131 = .ok (.iconst 1, 1) := by decide +kernel
theorem dX10_text_132 : decode cX10_text 132 = .ok (.bipush 9, 2) := by decide +kernel
theorem dX10_text_134 : decode cX10_text 134 = .ok (.iastore, 1) := by decide +kernel
theorem dX10_text_135 : decode cX10_text 135 = .ok (.aload_n 0, 1) := by decide +kernel
theorem dX10_text_136 : decode cX10_text 136 = .ok (.getfield 17, 3) := by decide +kernel
theorem dX10_text_139 : decode cX10_text 139 = .ok (.iconst 3, 1) := by decide +kernel
theorem dX10_text_140 : decode cX10_text 140 = .ok (.bipush 48, 2) := by decide +kernel
theorem dX10_text_142 : decode cX10_text 142 = .ok (.iastore, 1) := by decide +kernel
theorem dX10_text_143 : decode cX10_text 143 = .ok (.aload_n 0, 1) := by decide +kernel
theorem dX10_text_144 : decode cX10_text 144 = .ok (.invokevirtual 123, 3) := by decide +kernel
theorem dX10_text_147 : decode cX10_text 147 = .ok (.aload_n 0, 1) := by decide +kernel
theorem dX10_text_148 : decode cX10_text 148 = .ok (.getfield 109, 3) := by decide +kernel
theorem dX10_text_151 : decode cX10_text 151 = .ok (.ifCond .ne 52, 3) := by decide +kernel
theorem dX10_text_154 : decode cX10_text 154 = .ok (.aload_n 0, 1) := by decide +kernel
theorem dX10_text_155 : decode cX10_text 155 = .ok (.getfield 90, 3) := by decide +kernel
theorem dX10_text_158 : decode cX10_text 158 = .ok (.ifCond .eq 45, 3) := by decide +kernel
theorem dX10_text_161 : decode cX10_text 161 = .ok (.iload_n 1, 1) := by decide +kernel
theorem dX10_text_162 : decode cX10_text 162 = .ok (.ifCond .ne 10, 3) := by decide +kernel
theorem dX10_text_165 : decode cX10_text 165 = .ok (.aload_n 0, 1) := by decide +kernel
theorem dX10_text_166 : decode cX10_text 166 = .ok (.invokevirtual 150, 3) := by decide +kernel
theorem dX10_text_169 : decode cX10_text 169 = .ok (.goto (-22), 3) := by decide +kernel
theorem dX10_text_172 : decode cX10_text 172 = .ok (.iload_n 1, 1) := by decide +kernel
theorem dX10_text_173 : decode cX10_text 173 = .ok (.iconst 1, 1) := by decide +kernel
theorem dX10_text_174 : decode cX10_text 174 = .ok (.if_icmp .ne 10, 3) := by decide +kernel
theorem dX10_text_177 : decode cX10_text 177 = .ok (.aload_n 0, 1) := by decide +kernel
theorem dX10_text_178 : decode cX10_text 178 = .ok (.invokevirtual 153, 3) := by decide +kernel
theorem dX10_text_181 : decode cX10_text 181 = .ok (.goto (-34), 3) := by decide +kernel
theorem dX10_text_184 : decode cX10_text 184 = .ok (.iload_n 1, 1) := by decide +kernel
theorem dX10_text_185 : decode cX10_text 185 = .ok (.iconst 2, 1) := by decide +kernel
theorem dX10_text_186 : decode cX10_text 186 = .ok (.if_icmp .ne 10, 3) := by decide +kernel
theorem dX10_text_189 : decode cX10_text 189 = .ok (.aload_n 0, 1) := by decide +kernel
theorem dX10_text_190 : decode cX10_text 190 = .ok (.invokevirtual 156, 3) := by decide +kernel
theorem dX10_text_193 : decode cX10_text 193 = .ok (.goto (-46), 3) := by decide +kernel
theorem dX10_text_196 : decode cX10_text 196 = .ok (.aload_n 0, 1) := by decide +kernel
theorem dX10_text_197 : decode cX10_text 197 = .ok (.invokevirtual 159, 3) := by decide +kernel
theorem dX10_text_200 : decode cX10_text 200 = .ok (.goto (-53), 3) := by decide +kernel
theorem dX10_text_203 : decode cX10_text 203 = .ok (.aload_n 0, 1) := by decide +kernel
theorem dX10_text_204 : decode cX10_text 204 = .ok (.getfield 7, 3) := by decide +kernel
theorem dX10_text_207 : decode cX10_text 207 = .ok (.bipush 7, 2) := by decide +kernel
theorem dX10_text_209 : decode cX10_text 209 = .ok (.iaload, 1) := by decide +kernel
theorem dX10_text_210 : decode cX10_text 210 = .ok (.ifCond .ne 23, 3) := by decide +kernel
theorem dX10_text_213 : decode cX10_text 213 = .ok (.iload_n 1, 1) := by decide +kernel
theorem dX10_text_214 : decode cX10_text 214 = .ok (.ifCond .ne 19, 3) := by decide +kernel
theorem dX10_text_217 : decode cX10_text 217 = .ok (.aload_n 0, 1) := by decide +kernel
theorem dX10_text_218 : decode cX10_text 218 = .ok (.invokevirtual 162, 3) := by decide +kernel
theorem dX10_text_221 : decode cX10_text 221 = .ok (.ifCond .ne 12, 3) := by decide +kernel
theorem dX10_text_224 : decode cX10_text 224 = .ok (.aload_n 0, 1) := by decide +kernel
theorem dX10_text_225 : decode cX10_text 225 = .ok (.iconst 4, 1) := by decide +kernel
theorem dX10_text_226 : decode cX10_text 226 = .ok (.aload_n 0, 1) := by decide +kernel
theorem dX10_text_227 : decode cX10_text 227 = .ok (.getfield 87, 3) := by decide +kernel
theorem dX10_text_230 : decode cX10_text 230 = .ok (.invokevirtual 119, 3) := by decide +kernel
theorem dX10_text_233 : decode cX10_text 233 = .ok (.aload_n 0, 1) := by decide +kernel
theorem dX10_text_234 : decode cX10_text 234 = .ok (.getfield 7, 3) := by decide +kernel
theorem dX10_text_237 : decode cX10_text 237 = .ok (.bipush 7, 2) := by decide +kernel
theorem dX10_text_239 : decode cX10_text 239 = .ok (.iaload, 1) := by decide +kernel
theorem dX10_text_240 : decode cX10_text 240 = .ok (.ifCond .eq 5, 3) := by decide +kernel
theorem dX10_text_243 : decode cX10_text 243 = .ok (.iconst (-1), 1) := by decide +kernel
theorem dX10_text_244 : decode cX10_text 244 = .ok (.ireturn, 1) := by decide +kernel
theorem dX10_text_245 : decode cX10_text 245 = .ok (.iload_n 2, 1) := by decide +kernel
theorem dX10_text_246 : decode cX10_text 246 = .ok (.iconst (-1), 1) := by decide +kernel
theorem dX10_text_247 : decode cX10_text 247 = .ok (.if_icmp .ne 12, 3) := by decide +kernel
theorem dX10_text_250 : decode cX10_text 250 = .ok (.aload_n 0, 1) := by decide +kernel
theorem dX10_text_251 : decode cX10_text 251 = .ok (.getfield 7, 3) := by decide +kernel
theorem dX10_text_254 : decode cX10_text 254 = .ok (.iload_n 1, 1) := by decide +kernel
theorem dX10_text_255 : decode cX10_text 255 = .ok (.iaload, 1) := by decide +kernel
theorem dX10_text_256 : decode cX10_text 256 = .ok (.goto 4, 3) := by decide +kernel
theorem dX10_text_259 : decode cX10_text 259 = .ok (.iload_n 2, 1) := by decide +kernel
theorem dX10_text_260 : decode cX10_text 260 = .ok (.istore_n 3, 1) := by decide +kernel
theorem dX10_text_261 : decode cX10_text 261 = .ok (.iload_n 2, 1) := by decide +kernel
theorem dX10_text_262 : decode cX10_text 262 = .ok (.iconst (-1), 1) := by decide +kernel
theorem dX10_text_263 : decode cX10_text 263 = .ok (.if_icmp .ne 13, 3) := by decide +kernel
theorem dX10_text_266 : decode cX10_text 266 = .ok (.aload_n 0, 1) := by decide +kernel
theorem dX10_text_267 : decode cX10_text 267 = .ok (.getfield 7, 3) := by decide +kernel
theorem dX10_text_270 : decode cX10_text 270 = .ok (.iload_n 1, 1) := by decide +kernel
theorem dX10_text_271 : decode cX10_text 271 = .ok (.dup2, 1) := by decide +kernel
theorem dX10_text_272 : decode cX10_text 272 = .ok (.iaload, 1) := by decide +kernel
theorem dX10_text_273 : decode cX10_text 273 = .ok (.iconst 1, 1) := by decide +kernel
theorem dX10_text_274 : decode cX10_text 274 = .ok (.iadd, 1) := by decide +kernel
theorem dX10_text_275 : decode cX10_text 275 = .ok (.iastore, 1) := by decide +kernel
theorem dX10_text_276 : decode cX10_text 276 = .ok (.iconst 0, 1) := by decide +kernel
theorem dX10_text_277 : decode cX10_text 277 = .ok (.istore 4, 2) := by decide +kernel
theorem dX10_text_279 : decode cX10_text 279 = .ok (.iload 4, 2) := by decide +kernel
theorem dX10_text_281 : decode cX10_text 281 = .ok (.iload_n 1, 1) := by decide +kernel
theorem dX10_text_282 : decode cX10_text 282 = .ok (.invokestatic 166, 3) := by decide +kernel
theorem dX10_text_285 : decode cX10_text 285 = .ok (.if_icmp .ge 29, 3) := by decide +kernel
theorem dX10_text_288 : decode cX10_text 288 = .ok (.aload_n 0, 1) := by decide +kernel
theorem dX10_text_289 : decode cX10_text 289 = .ok (.getfield 7, 3) := by decide +kernel
theorem dX10_text_292 : decode cX10_text 292 = .ok (.iload_n 1, 1) := by decide +kernel
theorem dX10_text_293 : decode cX10_text 293 = .ok (.iload_n 3, 1) := by decide +kernel
theorem dX10_text_294 : decode cX10_text 294 = .ok (.invokestatic 169, 3) := by decide +kernel
theorem dX10_text_297 : decode cX10_text 297 = .ok (.iload 4, 2) := by decide +kernel
theorem dX10_text_299 : decode cX10_text 299 = .ok (.iadd, 1) := by decide +kernel
theorem dX10_text_300 : decode cX10_text 300 = .ok (.aload_n 0, 1) := by decide +kernel
theorem dX10_text_301 : decode cX10_text 301 = .ok (.getfield 17, 3) := by decide +kernel
theorem dX10_text_304 : decode cX10_text 304 = .ok (.iload 4, 2) := by decide +kernel
theorem dX10_text_306 : decode cX10_text 306 = .ok (.iaload, 1) := by decide +kernel
theorem dX10_text_307 : decode cX10_text 307 = .ok (.iastore, 1) := by decide +kernel
theorem dX10_text_308 : decode cX10_text 308 = .ok (.iinc 4 1, 3) := by decide +kernel
theorem dX10_text_311 : decode cX10_text 311 = .ok (.goto (-32), 3) := by decide +kernel
theorem dX10_text_314 : decode cX10_text 314 = .ok (.iload_n 3, 1) := by decide +kernel
theorem dX10_text_315 : decode cX10_text 315 = .ok (.ireturn, 1) := by decide +kernel
def zX10_text (Qr : Option PV → Mem → Prop) : XZ := (RX10, 7, 164, 5, some FieldType.int, Qr)
noncomputable def fX10_text_b279 : Nat → Nat → Int → Int → Int → Mem → Option (Int × Mem)
  | 0, _, _, _, _, _ => none
  | n + 1, o, x1, x3, x4, F =>
    if (fX10_sizeOf x1) ≤ x4 then
      some (x3, F)
    else
      if (0 : Int) ≤ x4 ∧ x4 < (alen (o + 3) : Int) then
        if (0 : Int) ≤ (xw ((fX10_placeOf x1 x3) + x4)) ∧ (xw ((fX10_placeOf x1 x3) + x4)) < (alen (o + 1) : Int) then
          fX10_text_b279 n o x1 x3 (xw (x4 + 1)) (mset F (o + 1) (xw ((fX10_placeOf x1 x3) + x4)).toNat (F (o + 3) x4.toNat))
        else none
      else none
noncomputable def fX10_text_b260 (o : Nat) (x1 : Int) (x2 : Int) (s0 : Int) (F : Mem) : Option (Int × Mem) :=
  if x2 ≠ (-1) then
    fX10_text_b279 FU o x1 s0 0 F
  else
    if (0 : Int) ≤ x1 ∧ x1 < (alen (o + 1) : Int) then
      if (0 : Int) ≤ x1 ∧ x1 < (alen (o + 1) : Int) then
        fX10_text_b279 FU o x1 s0 0 (mset F (o + 1) x1.toNat (xw ((F (o + 1) x1.toNat) + 1)))
      else none
    else none
noncomputable def fX10_text_b233 (o : Nat) (x1 : Int) (x2 : Int) (F : Mem) : Option (Int × Mem) :=
  if (0 : Int) ≤ 7 ∧ 7 < (alen (o + 1) : Int) then
    if (F (o + 1) 7) = 0 then
      if x2 ≠ (-1) then
        fX10_text_b260 o x1 x2 x2 F
      else
        if (0 : Int) ≤ x1 ∧ x1 < (alen (o + 1) : Int) then
          fX10_text_b260 o x1 x2 (F (o + 1) x1.toNat) F
        else none
    else
      some ((-1), F)
  else none
noncomputable def fX10_text_b203 (o : Nat) (x1 : Int) (x2 : Int) (F : Mem) : Option (Int × Mem) :=
  if (0 : Int) ≤ 7 ∧ 7 < (alen (o + 1) : Int) then
    if (F (o + 1) 7) ≠ 0 then
      fX10_text_b233 o x1 x2 F
    else
      if x1 ≠ 0 then
        fX10_text_b233 o x1 x2 F
      else
        (fX10_isValley o F).bind fun r4 =>
        if r4 ≠ 0 then
          fX10_text_b233 o x1 x2 F
        else
          (fX10_also o 4 (F o 4) F).bind fun q7 =>
          fX10_text_b233 o x1 x2 q7
  else none
noncomputable def fX10_text_b147 : Nat → Nat → Int → Int → Mem → Option (Int × Mem)
  | 0, _, _, _, _ => none
  | n + 1, o, x1, x2, F =>
    if (F o 8) ≠ 0 then
      fX10_text_b203 o x1 x2 F
    else
      if (F o 5) = 0 then
        fX10_text_b203 o x1 x2 F
      else
        if x1 ≠ 0 then
          if x1 ≠ 1 then
            if x1 ≠ 2 then
              (fX10_listLine o F).bind fun q6 =>
              fX10_text_b147 n o x1 x2 q6
            else
              (fX10_ledgerLine o F).bind fun q8 =>
              fX10_text_b147 n o x1 x2 q8
          else
            (fX10_roundLine o F).bind fun q10 =>
            fX10_text_b147 n o x1 x2 q10
        else
          (fX10_valleyLine o F).bind fun q12 =>
          fX10_text_b147 n o x1 x2 q12
noncomputable def fX10_text_b143 (o : Nat) (x1 : Int) (x2 : Int) (F : Mem) : Option (Int × Mem) :=
  (fX10_advance o F).bind fun q1 =>
  fX10_text_b147 FU o x1 x2 q1
noncomputable def fX10_text_b95 : Nat → Nat → Int → Int → Int → Mem → Option (Int × Mem)
  | 0, _, _, _, _, _ => none
  | n + 1, o, x1, x2, x3, F =>
    if 200 ≤ x3 then
      if x1 ≠ 0 then
        fX10_text_b143 o x1 x2 F
      else
        if (0 : Int) ≤ 0 ∧ 0 < (alen (o + 3) : Int) then
          if (0 : Int) ≤ 1 ∧ 1 < (alen (o + 3) : Int) then
            if (0 : Int) ≤ 3 ∧ 3 < (alen (o + 3) : Int) then
              fX10_text_b143 o x1 x2 (mset (mset (mset F (o + 3) 0 24) (o + 3) 1 9) (o + 3) 3 48)
            else none
          else none
        else none
    else
      if (0 : Int) ≤ x3 ∧ x3 < (alen (o + 3) : Int) then
        fX10_text_b95 n o x1 x2 (xw (x3 + 1)) (mset F (o + 3) x3.toNat 0)
      else none
noncomputable def fX10_text_b65 (o : Nat) (x1 : Int) (x2 : Int) (s0 : Int) (s1 : Int) (F : Mem) : Option (Int × Mem) :=
  if s0 < s1 then
    fX10_text_b95 FU o x1 x2 0 (mset (mset F o 3 0) o 8 0)
  else
    some ((-2), F)
noncomputable def fX10_text (o : Nat) (x1 : Int) (x2 : Int) (F : Mem) : Option (Int × Mem) :=
  if (0 : Int) ≤ 6 ∧ 6 < (alen (o + 1) : Int) then
    if (0 : Int) ≤ 6 ∧ 6 < (alen (o + 1) : Int) then
      if (0 : Int) ≤ 7 ∧ 7 < (alen (o + 1) : Int) then
        if (0 : Int) ≤ 8 ∧ 8 < (alen (o + 1) : Int) then
          if (fX10_isIn x1 0 3) = 0 then
            some ((-2), mset (mset (mset (mset F o 2 (F (o + 1) 6)) (o + 1) 6 0) (o + 1) 7 0) (o + 1) 8 (-1))
          else
            if x2 ≠ (-1) then
              (fX10_isOf o x1 x2 (mset (mset (mset (mset F o 2 (F (o + 1) 6)) (o + 1) 6 0) (o + 1) 7 0) (o + 1) 8 (-1))).bind fun r7 =>
              if r7 ≠ 0 then
                fX10_text_b95 FU o x1 x2 0 (mset (mset (mset (mset (mset (mset F o 2 (F (o + 1) 6)) (o + 1) 6 0) (o + 1) 7 0) (o + 1) 8 (-1)) o 3 0) o 8 0)
              else
                some ((-2), mset (mset (mset (mset F o 2 (F (o + 1) 6)) (o + 1) 6 0) (o + 1) 7 0) (o + 1) 8 (-1))
            else
              if (0 : Int) ≤ x1 ∧ x1 < (alen (o + 1) : Int) then
                if x1 ≠ 1 then
                  fX10_text_b65 o x1 x2 ((mset (mset (mset (mset F o 2 (F (o + 1) 6)) (o + 1) 6 0) (o + 1) 7 0) (o + 1) 8 (-1)) (o + 1) x1.toNat) 2 (mset (mset (mset (mset F o 2 (F (o + 1) 6)) (o + 1) 6 0) (o + 1) 7 0) (o + 1) 8 (-1))
                else
                  fX10_text_b65 o x1 x2 ((mset (mset (mset (mset F o 2 (F (o + 1) 6)) (o + 1) 6 0) (o + 1) 7 0) (o + 1) 8 (-1)) (o + 1) x1.toNat) 3 (mset (mset (mset (mset F o 2 (F (o + 1) 6)) (o + 1) 6 0) (o + 1) 7 0) (o + 1) 8 (-1))
              else none
        else none
      else none
    else none
  else none
theorem fX10_text_b279_ok {Qr : Option PV → Mem → Prop}  : ∀ (n : Nat) (o : Nat) (x1 : Int) (x3 : Int) (x4 : Int) (F : Mem) (res : (Int × Mem)) (ho : isK o 10), fX10_text_b279 n o x1 x3 x4 F = some res → Qr (some (vI res.1)) res.2 → PR cX10_text (zX10_text Qr) 279 [(0, vR o), (1, vI x1), (3, vI x3), (4, vI x4)] [] F := by
  intro n
  induction n with
  | zero => intro o x1 x3 x4 F res ho h hq; exact nomatch (show (none : Option _) = some _ from h)
  | succ n ih =>
    intro o x1 x3 x4 F res ho h hq
    refine s_iload (j := 3) dX10_text_279 rfl ?_
    refine s_iload_n (j := 1) dX10_text_281 rfl rfl ?_
    refine s_callS (As := [vI x1]) (rest := [vI x4]) (r := (some (vI (fX10_sizeOf x1)))) (F' := F) dX10_text_282 (clX10_166 (Nat.le_of_ble_eq_true rfl) (Nat.le_of_ble_eq_true rfl)) rfl ⟨_, _, rfl, rfl, rfl, rfl⟩ rfl (Nat.le_of_ble_eq_true rfl) ?_
    refine s_icmp_ge (tgt := 314) dX10_text_285 rfl (fun hc1 => ?_) (fun hc1 => ?_)
    · have h := ifp hc1 h
      refine s_iload_n (j := 2) dX10_text_314 rfl rfl ?_
      have h := Option.some.inj h
      subst h
      exact s_ireturn dX10_text_315 rfl hq
    · have h := ifn hc1 h
      refine s_aload_n (j := 0) dX10_text_288 rfl rfl ?_
      refine s_getR dX10_text_289 flX10_7 ho ?_
      refine s_iload_n (j := 1) dX10_text_292 rfl rfl ?_
      refine s_iload_n (j := 2) dX10_text_293 rfl rfl ?_
      refine s_callS (As := [vI x1, vI x3]) (rest := [vR (o + 1)]) (r := (some (vI (fX10_placeOf x1 x3)))) (F' := F) dX10_text_294 (clX10_169 (Nat.le_of_ble_eq_true rfl) (Nat.le_of_ble_eq_true rfl)) rfl ⟨_, _, _, rfl, rfl, rfl, rfl⟩ rfl (Nat.le_of_ble_eq_true rfl) ?_
      refine s_iload (j := 3) dX10_text_297 rfl ?_
      refine s_iadd dX10_text_299 ?_
      refine s_aload_n (j := 0) dX10_text_300 rfl rfl ?_
      refine s_getR dX10_text_301 flX10_17 ho ?_
      refine s_iload (j := 3) dX10_text_304 rfl ?_
      obtain ⟨hb2, h⟩ := gd h
      refine s_iaload dX10_text_306 (trX10_9 ho) hb2.1 hb2.2 ?_
      obtain ⟨hb3, h⟩ := gd h
      refine s_iastore dX10_text_307 (trX10_0 ho) hb3.1 hb3.2 ?_
      refine s_iinc (ls' := [(4, vI (xw (x4 + 1))), (0, vR o), (1, vI x1), (3, vI x3)]) (j := 3) dX10_text_308 rfl (Nat.le_of_ble_eq_true rfl) rfl ?_
      refine s_goto (tgt := 279) dX10_text_311 rfl ?_
      exact s_sub (ks := [1, 2, 3, 0]) rfl (ih o x1 x3 (xw (x4 + 1)) (mset F (o + 1) (xw ((fX10_placeOf x1 x3) + x4)).toNat (F (o + 3) x4.toNat)) _ ho h hq)
theorem fX10_text_b260_ok {Qr : Option PV → Mem → Prop}  : ∀ (o : Nat) (x1 : Int) (x2 : Int) (s0 : Int) (F : Mem) (res : (Int × Mem)) (ho : isK o 10), fX10_text_b260 o x1 x2 s0 F = some res → Qr (some (vI res.1)) res.2 → PR cX10_text (zX10_text Qr) 260 [(0, vR o), (1, vI x1), (2, vI x2)] [vI s0] F := by
  intro o x1 x2 s0 F res ho h hq
  refine s_istore_n (ls' := [(3, vI s0), (0, vR o), (1, vI x1), (2, vI x2)]) dX10_text_260 rfl (Nat.le_of_ble_eq_true rfl) rfl ?_
  refine s_iload_n (j := 3) dX10_text_261 rfl rfl ?_
  refine s_iconst dX10_text_262 (cin rfl) ?_
  refine s_icmp_ne (tgt := 276) dX10_text_263 rfl (fun hc1 => ?_) (fun hc1 => ?_)
  · have h := ifp hc1 h
    refine s_iconst dX10_text_276 (cin rfl) ?_
    refine s_istore (ls' := [(4, vI 0), (3, vI s0), (0, vR o), (1, vI x1), (2, vI x2)]) dX10_text_277 (Nat.le_of_ble_eq_true rfl) rfl ?_
    exact s_sub (ks := [2, 3, 1, 0]) rfl (fX10_text_b279_ok FU o x1 s0 0 F _ ho h hq)
  · have h := ifn hc1 h
    refine s_aload_n (j := 1) dX10_text_266 rfl rfl ?_
    refine s_getR dX10_text_267 flX10_7 ho ?_
    refine s_iload_n (j := 2) dX10_text_270 rfl rfl ?_
    refine s_dup2 dX10_text_271 rfl rfl ?_
    obtain ⟨hb2, h⟩ := gd h
    refine s_iaload dX10_text_272 (trX10_0 ho) hb2.1 hb2.2 ?_
    refine s_iconst dX10_text_273 (cin rfl) ?_
    refine s_iadd dX10_text_274 ?_
    obtain ⟨hb3, h⟩ := gd h
    refine s_iastore dX10_text_275 (trX10_0 ho) hb3.1 hb3.2 ?_
    refine s_iconst dX10_text_276 (cin rfl) ?_
    refine s_istore (ls' := [(4, vI 0), (3, vI s0), (0, vR o), (1, vI x1), (2, vI x2)]) dX10_text_277 (Nat.le_of_ble_eq_true rfl) rfl ?_
    exact s_sub (ks := [2, 3, 1, 0]) rfl (fX10_text_b279_ok FU o x1 s0 0 (mset F (o + 1) x1.toNat (xw ((F (o + 1) x1.toNat) + 1))) _ ho h hq)
theorem fX10_text_b233_ok {Qr : Option PV → Mem → Prop}  : ∀ (o : Nat) (x1 : Int) (x2 : Int) (F : Mem) (res : (Int × Mem)) (ho : isK o 10), fX10_text_b233 o x1 x2 F = some res → Qr (some (vI res.1)) res.2 → PR cX10_text (zX10_text Qr) 233 [(0, vR o), (1, vI x1), (2, vI x2)] [] F := by
  intro o x1 x2 F res ho h hq
  refine s_aload_n (j := 0) dX10_text_233 rfl rfl ?_
  refine s_getR dX10_text_234 flX10_7 ho ?_
  refine s_bipush dX10_text_237 rfl (cin rfl) ?_
  obtain ⟨hb1, h⟩ := gd h
  refine s_iaload dX10_text_239 (trX10_0 ho) hb1.1 hb1.2 ?_
  refine s_if_eq (tgt := 245) dX10_text_240 rfl (fun hc2 => ?_) (fun hc2 => ?_)
  · have h := ifp hc2 h
    refine s_iload_n (j := 2) dX10_text_245 rfl rfl ?_
    refine s_iconst dX10_text_246 (cin rfl) ?_
    refine s_icmp_ne (tgt := 259) dX10_text_247 rfl (fun hc3 => ?_) (fun hc3 => ?_)
    · have h := ifp hc3 h
      refine s_iload_n (j := 2) dX10_text_259 rfl rfl ?_
      exact s_sub (ks := [0, 1, 2]) rfl (fX10_text_b260_ok o x1 x2 x2 F _ ho h hq)
    · have h := ifn hc3 h
      refine s_aload_n (j := 0) dX10_text_250 rfl rfl ?_
      refine s_getR dX10_text_251 flX10_7 ho ?_
      refine s_iload_n (j := 1) dX10_text_254 rfl rfl ?_
      obtain ⟨hb4, h⟩ := gd h
      refine s_iaload dX10_text_255 (trX10_0 ho) hb4.1 hb4.2 ?_
      refine s_goto (tgt := 260) dX10_text_256 rfl ?_
      exact s_sub (ks := [0, 1, 2]) rfl (fX10_text_b260_ok o x1 x2 (F (o + 1) x1.toNat) F _ ho h hq)
  · have h := ifn hc2 h
    refine s_iconst dX10_text_243 (cin rfl) ?_
    have h := Option.some.inj h
    subst h
    exact s_ireturn dX10_text_244 rfl hq
theorem fX10_text_b203_ok {Qr : Option PV → Mem → Prop}  : ∀ (o : Nat) (x1 : Int) (x2 : Int) (F : Mem) (res : (Int × Mem)) (ho : isK o 10), fX10_text_b203 o x1 x2 F = some res → Qr (some (vI res.1)) res.2 → PR cX10_text (zX10_text Qr) 203 [(0, vR o), (1, vI x1), (2, vI x2)] [] F := by
  intro o x1 x2 F res ho h hq
  refine s_aload_n (j := 0) dX10_text_203 rfl rfl ?_
  refine s_getR dX10_text_204 flX10_7 ho ?_
  refine s_bipush dX10_text_207 rfl (cin rfl) ?_
  obtain ⟨hb1, h⟩ := gd h
  refine s_iaload dX10_text_209 (trX10_0 ho) hb1.1 hb1.2 ?_
  refine s_if_ne (tgt := 233) dX10_text_210 rfl (fun hc2 => ?_) (fun hc2 => ?_)
  · have h := ifp hc2 h
    exact s_sub (ks := [0, 1, 2]) rfl (fX10_text_b233_ok o x1 x2 F _ ho h hq)
  · have h := ifn hc2 h
    refine s_iload_n (j := 1) dX10_text_213 rfl rfl ?_
    refine s_if_ne (tgt := 233) dX10_text_214 rfl (fun hc3 => ?_) (fun hc3 => ?_)
    · have h := ifp hc3 h
      exact s_sub (ks := [0, 1, 2]) rfl (fX10_text_b233_ok o x1 x2 F _ ho h hq)
    · have h := ifn hc3 h
      refine s_aload_n (j := 0) dX10_text_217 rfl rfl ?_
      obtain ⟨r4, hv5, h⟩ := bnd h
      refine s_callV (As := []) (rest := []) (r := (some (vI r4))) (F' := F) dX10_text_218 (clX10_162 (Nat.le_of_ble_eq_true rfl) (Nat.le_of_ble_eq_true rfl)) ho rfl ⟨_, _, rfl, ho, hv5, rfl, rfl⟩ rfl (Nat.le_of_ble_eq_true rfl) ?_
      refine s_if_ne (tgt := 233) dX10_text_221 rfl (fun hc6 => ?_) (fun hc6 => ?_)
      · have h := ifp hc6 h
        exact s_sub (ks := [0, 1, 2]) rfl (fX10_text_b233_ok o x1 x2 F _ ho h hq)
      · have h := ifn hc6 h
        refine s_aload_n (j := 0) dX10_text_224 rfl rfl ?_
        refine s_iconst dX10_text_225 (cin rfl) ?_
        refine s_aload_n (j := 0) dX10_text_226 rfl rfl ?_
        refine s_getI dX10_text_227 flX10_87 ho ?_
        obtain ⟨q7, hv8, h⟩ := bnd h
        refine s_callV (As := [vI 4, vI (F o 4)]) (rest := []) (r := none) (F' := q7) dX10_text_230 (clX10_119 (Nat.le_of_ble_eq_true rfl) (Nat.le_of_ble_eq_true rfl)) ho rfl ⟨_, _, _, _, rfl, ho, hv8, rfl, rfl⟩ rfl (Nat.le_of_ble_eq_true rfl) ?_
        exact s_sub (ks := [0, 1, 2]) rfl (fX10_text_b233_ok o x1 x2 q7 _ ho h hq)
theorem fX10_text_b147_ok {Qr : Option PV → Mem → Prop}  : ∀ (n : Nat) (o : Nat) (x1 : Int) (x2 : Int) (F : Mem) (res : (Int × Mem)) (ho : isK o 10), fX10_text_b147 n o x1 x2 F = some res → Qr (some (vI res.1)) res.2 → PR cX10_text (zX10_text Qr) 147 [(0, vR o), (1, vI x1), (2, vI x2)] [] F := by
  intro n
  induction n with
  | zero => intro o x1 x2 F res ho h hq; exact nomatch (show (none : Option _) = some _ from h)
  | succ n ih =>
    intro o x1 x2 F res ho h hq
    refine s_aload_n (j := 0) dX10_text_147 rfl rfl ?_
    refine s_getI dX10_text_148 flX10_109 ho ?_
    refine s_if_ne (tgt := 203) dX10_text_151 rfl (fun hc1 => ?_) (fun hc1 => ?_)
    · have h := ifp hc1 h
      exact s_sub (ks := [0, 1, 2]) rfl (fX10_text_b203_ok o x1 x2 F _ ho h hq)
    · have h := ifn hc1 h
      refine s_aload_n (j := 0) dX10_text_154 rfl rfl ?_
      refine s_getI dX10_text_155 flX10_90 ho ?_
      refine s_if_eq (tgt := 203) dX10_text_158 rfl (fun hc2 => ?_) (fun hc2 => ?_)
      · have h := ifp hc2 h
        exact s_sub (ks := [0, 1, 2]) rfl (fX10_text_b203_ok o x1 x2 F _ ho h hq)
      · have h := ifn hc2 h
        refine s_iload_n (j := 1) dX10_text_161 rfl rfl ?_
        refine s_if_ne (tgt := 172) dX10_text_162 rfl (fun hc3 => ?_) (fun hc3 => ?_)
        · have h := ifp hc3 h
          refine s_iload_n (j := 1) dX10_text_172 rfl rfl ?_
          refine s_iconst dX10_text_173 (cin rfl) ?_
          refine s_icmp_ne (tgt := 184) dX10_text_174 rfl (fun hc4 => ?_) (fun hc4 => ?_)
          · have h := ifp hc4 h
            refine s_iload_n (j := 1) dX10_text_184 rfl rfl ?_
            refine s_iconst dX10_text_185 (cin rfl) ?_
            refine s_icmp_ne (tgt := 196) dX10_text_186 rfl (fun hc5 => ?_) (fun hc5 => ?_)
            · have h := ifp hc5 h
              refine s_aload_n (j := 0) dX10_text_196 rfl rfl ?_
              obtain ⟨q6, hv7, h⟩ := bnd h
              refine s_callV (As := []) (rest := []) (r := none) (F' := q6) dX10_text_197 (clX10_159 (Nat.le_of_ble_eq_true rfl) (Nat.le_of_ble_eq_true rfl)) ho rfl ⟨_, _, rfl, ho, hv7, rfl, rfl⟩ rfl (Nat.le_of_ble_eq_true rfl) ?_
              refine s_goto (tgt := 147) dX10_text_200 rfl ?_
              exact s_sub (ks := [0, 1, 2]) rfl (ih o x1 x2 q6 _ ho h hq)
            · have h := ifn hc5 h
              refine s_aload_n (j := 0) dX10_text_189 rfl rfl ?_
              obtain ⟨q8, hv9, h⟩ := bnd h
              refine s_callV (As := []) (rest := []) (r := none) (F' := q8) dX10_text_190 (clX10_156 (Nat.le_of_ble_eq_true rfl) (Nat.le_of_ble_eq_true rfl)) ho rfl ⟨_, _, rfl, ho, hv9, rfl, rfl⟩ rfl (Nat.le_of_ble_eq_true rfl) ?_
              refine s_goto (tgt := 147) dX10_text_193 rfl ?_
              exact s_sub (ks := [0, 1, 2]) rfl (ih o x1 x2 q8 _ ho h hq)
          · have h := ifn hc4 h
            refine s_aload_n (j := 0) dX10_text_177 rfl rfl ?_
            obtain ⟨q10, hv11, h⟩ := bnd h
            refine s_callV (As := []) (rest := []) (r := none) (F' := q10) dX10_text_178 (clX10_153 (Nat.le_of_ble_eq_true rfl) (Nat.le_of_ble_eq_true rfl)) ho rfl ⟨_, _, rfl, ho, hv11, rfl, rfl⟩ rfl (Nat.le_of_ble_eq_true rfl) ?_
            refine s_goto (tgt := 147) dX10_text_181 rfl ?_
            exact s_sub (ks := [0, 1, 2]) rfl (ih o x1 x2 q10 _ ho h hq)
        · have h := ifn hc3 h
          refine s_aload_n (j := 0) dX10_text_165 rfl rfl ?_
          obtain ⟨q12, hv13, h⟩ := bnd h
          refine s_callV (As := []) (rest := []) (r := none) (F' := q12) dX10_text_166 (clX10_150 (Nat.le_of_ble_eq_true rfl) (Nat.le_of_ble_eq_true rfl)) ho rfl ⟨_, _, rfl, ho, hv13, rfl, rfl⟩ rfl (Nat.le_of_ble_eq_true rfl) ?_
          refine s_goto (tgt := 147) dX10_text_169 rfl ?_
          exact s_sub (ks := [0, 1, 2]) rfl (ih o x1 x2 q12 _ ho h hq)
theorem fX10_text_b143_ok {Qr : Option PV → Mem → Prop}  : ∀ (o : Nat) (x1 : Int) (x2 : Int) (F : Mem) (res : (Int × Mem)) (ho : isK o 10), fX10_text_b143 o x1 x2 F = some res → Qr (some (vI res.1)) res.2 → PR cX10_text (zX10_text Qr) 143 [(0, vR o), (1, vI x1), (2, vI x2)] [] F := by
  intro o x1 x2 F res ho h hq
  refine s_aload_n (j := 0) dX10_text_143 rfl rfl ?_
  obtain ⟨q1, hv2, h⟩ := bnd h
  refine s_callV (As := []) (rest := []) (r := none) (F' := q1) dX10_text_144 (clX10_123 (Nat.le_of_ble_eq_true rfl) (Nat.le_of_ble_eq_true rfl)) ho rfl ⟨_, _, rfl, ho, hv2, rfl, rfl⟩ rfl (Nat.le_of_ble_eq_true rfl) ?_
  exact s_sub (ks := [0, 1, 2]) rfl (fX10_text_b147_ok FU o x1 x2 q1 _ ho h hq)
theorem fX10_text_b95_ok {Qr : Option PV → Mem → Prop}  : ∀ (n : Nat) (o : Nat) (x1 : Int) (x2 : Int) (x3 : Int) (F : Mem) (res : (Int × Mem)) (ho : isK o 10), fX10_text_b95 n o x1 x2 x3 F = some res → Qr (some (vI res.1)) res.2 → PR cX10_text (zX10_text Qr) 95 [(0, vR o), (1, vI x1), (2, vI x2), (3, vI x3)] [] F := by
  intro n
  induction n with
  | zero => intro o x1 x2 x3 F res ho h hq; exact nomatch (show (none : Option _) = some _ from h)
  | succ n ih =>
    intro o x1 x2 x3 F res ho h hq
    refine s_iload_n (j := 3) dX10_text_95 rfl rfl ?_
    refine s_sipush dX10_text_96 rfl (cin rfl) ?_
    refine s_icmp_ge (tgt := 115) dX10_text_99 rfl (fun hc1 => ?_) (fun hc1 => ?_)
    · have h := ifp hc1 h
      refine s_iload_n (j := 1) dX10_text_115 rfl rfl ?_
      refine s_if_ne (tgt := 143) dX10_text_116 rfl (fun hc2 => ?_) (fun hc2 => ?_)
      · have h := ifp hc2 h
        exact s_sub (ks := [0, 1, 2]) rfl (fX10_text_b143_ok o x1 x2 F _ ho h hq)
      · have h := ifn hc2 h
        refine s_aload_n (j := 0) dX10_text_119 rfl rfl ?_
        refine s_getR dX10_text_120 flX10_17 ho ?_
        refine s_iconst dX10_text_123 (cin rfl) ?_
        refine s_bipush dX10_text_124 rfl (cin rfl) ?_
        obtain ⟨hb3, h⟩ := gd h
        refine s_iastore dX10_text_126 (trX10_9 ho) hb3.1 hb3.2 ?_
        refine s_aload_n (j := 0) dX10_text_127 rfl rfl ?_
        refine s_getR dX10_text_128 flX10_17 ho ?_
        refine s_iconst dX10_text_131 (cin rfl) ?_
        refine s_bipush dX10_text_132 rfl (cin rfl) ?_
        obtain ⟨hb4, h⟩ := gd h
        refine s_iastore dX10_text_134 (trX10_9 ho) hb4.1 hb4.2 ?_
        refine s_aload_n (j := 0) dX10_text_135 rfl rfl ?_
        refine s_getR dX10_text_136 flX10_17 ho ?_
        refine s_iconst dX10_text_139 (cin rfl) ?_
        refine s_bipush dX10_text_140 rfl (cin rfl) ?_
        obtain ⟨hb5, h⟩ := gd h
        refine s_iastore dX10_text_142 (trX10_9 ho) hb5.1 hb5.2 ?_
        exact s_sub (ks := [0, 1, 2]) rfl (fX10_text_b143_ok o x1 x2 (mset (mset (mset F (o + 3) 0 24) (o + 3) 1 9) (o + 3) 3 48) _ ho h hq)
    · have h := ifn hc1 h
      refine s_aload_n (j := 0) dX10_text_102 rfl rfl ?_
      refine s_getR dX10_text_103 flX10_17 ho ?_
      refine s_iload_n (j := 3) dX10_text_106 rfl rfl ?_
      refine s_iconst dX10_text_107 (cin rfl) ?_
      obtain ⟨hb6, h⟩ := gd h
      refine s_iastore dX10_text_108 (trX10_9 ho) hb6.1 hb6.2 ?_
      refine s_iinc (ls' := [(3, vI (xw (x3 + 1))), (0, vR o), (1, vI x1), (2, vI x2)]) (j := 3) dX10_text_109 rfl (Nat.le_of_ble_eq_true rfl) rfl ?_
      refine s_goto (tgt := 95) dX10_text_112 rfl ?_
      exact s_sub (ks := [1, 2, 3, 0]) rfl (ih o x1 x2 (xw (x3 + 1)) (mset F (o + 3) x3.toNat 0) _ ho h hq)
theorem fX10_text_b65_ok {Qr : Option PV → Mem → Prop}  : ∀ (o : Nat) (x1 : Int) (x2 : Int) (s0 : Int) (s1 : Int) (F : Mem) (res : (Int × Mem)) (ho : isK o 10), fX10_text_b65 o x1 x2 s0 s1 F = some res → Qr (some (vI res.1)) res.2 → PR cX10_text (zX10_text Qr) 65 [(0, vR o), (1, vI x1), (2, vI x2)] [vI s1, vI s0] F := by
  intro o x1 x2 s0 s1 F res ho h hq
  refine s_icmp_lt (tgt := 83) dX10_text_65 rfl (fun hc1 => ?_) (fun hc1 => ?_)
  · have h := ifp hc1 h
    refine s_aload_n (j := 0) dX10_text_83 rfl rfl ?_
    refine s_iconst dX10_text_84 (cin rfl) ?_
    refine s_putI dX10_text_85 flX10_80 fpX10_3 ho ?_
    refine s_aload_n (j := 0) dX10_text_88 rfl rfl ?_
    refine s_iconst dX10_text_89 (cin rfl) ?_
    refine s_putZ dX10_text_90 flX10_109 fpX10_8 ho (Or.inl rfl) ?_
    refine s_iconst dX10_text_93 (cin rfl) ?_
    refine s_istore_n (ls' := [(3, vI 0), (0, vR o), (1, vI x1), (2, vI x2)]) dX10_text_94 rfl (Nat.le_of_ble_eq_true rfl) rfl ?_
    exact s_sub (ks := [1, 2, 3, 0]) rfl (fX10_text_b95_ok FU o x1 x2 0 (mset (mset F o 3 0) o 8 0) _ ho h hq)
  · have h := ifn hc1 h
    refine s_goto (tgt := 80) dX10_text_68 rfl ?_
    refine s_bipush dX10_text_80 rfl (cin rfl) ?_
    have h := Option.some.inj h
    subst h
    exact s_ireturn dX10_text_82 rfl hq
theorem fX10_text_ok {Qr : Option PV → Mem → Prop} : ∀ (o : Nat) (x1 : Int) (x2 : Int) (F : Mem) (res : (Int × Mem)) (ho : isK o 10), fX10_text o x1 x2 F = some res → Qr (some (vI res.1)) res.2 → PR cX10_text (zX10_text Qr) 0 [(0, vR o), (1, vI x1), (2, vI x2)] [] F := by
  intro o x1 x2 F res ho h hq
  refine s_aload_n (j := 0) dX10_text_0 rfl rfl ?_
  refine s_aload_n (j := 0) dX10_text_1 rfl rfl ?_
  refine s_getR dX10_text_2 flX10_7 ho ?_
  refine s_bipush dX10_text_5 rfl (cin rfl) ?_
  obtain ⟨hb1, h⟩ := gd h
  refine s_iaload dX10_text_7 (trX10_0 ho) hb1.1 hb1.2 ?_
  refine s_putI dX10_text_8 flX10_68 fpX10_2 ho ?_
  refine s_aload_n (j := 0) dX10_text_11 rfl rfl ?_
  refine s_getR dX10_text_12 flX10_7 ho ?_
  refine s_bipush dX10_text_15 rfl (cin rfl) ?_
  refine s_iconst dX10_text_17 (cin rfl) ?_
  obtain ⟨hb2, h⟩ := gd h
  refine s_iastore dX10_text_18 (trX10_0 ho) hb2.1 hb2.2 ?_
  refine s_aload_n (j := 0) dX10_text_19 rfl rfl ?_
  refine s_getR dX10_text_20 flX10_7 ho ?_
  refine s_bipush dX10_text_23 rfl (cin rfl) ?_
  refine s_iconst dX10_text_25 (cin rfl) ?_
  obtain ⟨hb3, h⟩ := gd h
  refine s_iastore dX10_text_26 (trX10_0 ho) hb3.1 hb3.2 ?_
  refine s_aload_n (j := 0) dX10_text_27 rfl rfl ?_
  refine s_getR dX10_text_28 flX10_7 ho ?_
  refine s_bipush dX10_text_31 rfl (cin rfl) ?_
  refine s_iconst dX10_text_33 (cin rfl) ?_
  obtain ⟨hb4, h⟩ := gd h
  refine s_iastore dX10_text_34 (trX10_0 ho) hb4.1 hb4.2 ?_
  refine s_iload_n (j := 1) dX10_text_35 rfl rfl ?_
  refine s_iconst dX10_text_36 (cin rfl) ?_
  refine s_iconst dX10_text_37 (cin rfl) ?_
  refine s_callS (As := [vI x1, vI 0, vI 3]) (rest := []) (r := (some (vI (fX10_isIn x1 0 3)))) (F' := mset (mset (mset (mset F o 2 (F (o + 1) 6)) (o + 1) 6 0) (o + 1) 7 0) (o + 1) 8 (-1)) dX10_text_38 (clX10_115 (Nat.le_of_ble_eq_true rfl) (Nat.le_of_ble_eq_true rfl)) rfl ⟨_, _, _, _, rfl, rfl, rfl, rfl⟩ rfl (Nat.le_of_ble_eq_true rfl) ?_
  refine s_if_eq (tgt := 80) dX10_text_41 rfl (fun hc5 => ?_) (fun hc5 => ?_)
  · have h := ifp hc5 h
    refine s_bipush dX10_text_80 rfl (cin rfl) ?_
    have h := Option.some.inj h
    subst h
    exact s_ireturn dX10_text_82 rfl hq
  · have h := ifn hc5 h
    refine s_iload_n (j := 2) dX10_text_44 rfl rfl ?_
    refine s_iconst dX10_text_45 (cin rfl) ?_
    refine s_icmp_ne (tgt := 71) dX10_text_46 rfl (fun hc6 => ?_) (fun hc6 => ?_)
    · have h := ifp hc6 h
      refine s_aload_n (j := 0) dX10_text_71 rfl rfl ?_
      refine s_iload_n (j := 1) dX10_text_72 rfl rfl ?_
      refine s_iload_n (j := 2) dX10_text_73 rfl rfl ?_
      obtain ⟨r7, hv8, h⟩ := bnd h
      refine s_callV (As := [vI x1, vI x2]) (rest := []) (r := (some (vI r7))) (F' := mset (mset (mset (mset F o 2 (F (o + 1) 6)) (o + 1) 6 0) (o + 1) 7 0) (o + 1) 8 (-1)) dX10_text_74 (clX10_146 (Nat.le_of_ble_eq_true rfl) (Nat.le_of_ble_eq_true rfl)) ho rfl ⟨_, _, _, _, rfl, ho, hv8, rfl, rfl⟩ rfl (Nat.le_of_ble_eq_true rfl) ?_
      refine s_if_ne (tgt := 83) dX10_text_77 rfl (fun hc9 => ?_) (fun hc9 => ?_)
      · have h := ifp hc9 h
        refine s_aload_n (j := 0) dX10_text_83 rfl rfl ?_
        refine s_iconst dX10_text_84 (cin rfl) ?_
        refine s_putI dX10_text_85 flX10_80 fpX10_3 ho ?_
        refine s_aload_n (j := 0) dX10_text_88 rfl rfl ?_
        refine s_iconst dX10_text_89 (cin rfl) ?_
        refine s_putZ dX10_text_90 flX10_109 fpX10_8 ho (Or.inl rfl) ?_
        refine s_iconst dX10_text_93 (cin rfl) ?_
        refine s_istore_n (ls' := [(3, vI 0), (0, vR o), (1, vI x1), (2, vI x2)]) dX10_text_94 rfl (Nat.le_of_ble_eq_true rfl) rfl ?_
        exact s_sub (ks := [1, 2, 3, 0]) rfl (fX10_text_b95_ok FU o x1 x2 0 (mset (mset (mset (mset (mset (mset F o 2 (F (o + 1) 6)) (o + 1) 6 0) (o + 1) 7 0) (o + 1) 8 (-1)) o 3 0) o 8 0) _ ho h hq)
      · have h := ifn hc9 h
        refine s_bipush dX10_text_80 rfl (cin rfl) ?_
        have h := Option.some.inj h
        subst h
        exact s_ireturn dX10_text_82 rfl hq
    · have h := ifn hc6 h
      refine s_aload_n (j := 0) dX10_text_49 rfl rfl ?_
      refine s_getR dX10_text_50 flX10_7 ho ?_
      refine s_iload_n (j := 1) dX10_text_53 rfl rfl ?_
      obtain ⟨hb10, h⟩ := gd h
      refine s_iaload dX10_text_54 (trX10_0 ho) hb10.1 hb10.2 ?_
      refine s_iload_n (j := 1) dX10_text_55 rfl rfl ?_
      refine s_iconst dX10_text_56 (cin rfl) ?_
      refine s_icmp_ne (tgt := 64) dX10_text_57 rfl (fun hc11 => ?_) (fun hc11 => ?_)
      · have h := ifp hc11 h
        refine s_iconst dX10_text_64 (cin rfl) ?_
        exact s_sub (ks := [0, 1, 2]) rfl (fX10_text_b65_ok o x1 x2 ((mset (mset (mset (mset F o 2 (F (o + 1) 6)) (o + 1) 6 0) (o + 1) 7 0) (o + 1) 8 (-1)) (o + 1) x1.toNat) 2 (mset (mset (mset (mset F o 2 (F (o + 1) 6)) (o + 1) 6 0) (o + 1) 7 0) (o + 1) 8 (-1)) _ ho h hq)
      · have h := ifn hc11 h
        refine s_iconst dX10_text_60 (cin rfl) ?_
        refine s_goto (tgt := 65) dX10_text_61 rfl ?_
        exact s_sub (ks := [0, 1, 2]) rfl (fX10_text_b65_ok o x1 x2 ((mset (mset (mset (mset F o 2 (F (o + 1) 6)) (o + 1) 6 0) (o + 1) 7 0) (o + 1) 8 (-1)) (o + 1) x1.toNat) 3 (mset (mset (mset (mset F o 2 (F (o + 1) 6)) (o + 1) 6 0) (o + 1) 7 0) (o + 1) 8 (-1)) _ ho h hq)
def gX10_text : XG := fun As F r F' => ∃ o : Nat, ∃ x1 : Int, ∃ x2 : Int, ∃ res : (Int × Mem), As = [vR o, vI x1, vI x2] ∧ isK o 10 ∧ fX10_text o x1 x2 F = some res ∧ r = some (vI res.1) ∧ F' = res.2
theorem ctX10_text : xCT yX10_text cX10_text 5 (some FieldType.int) 7 164 gX10_text := xmet (by decide +kernel) (fun As F r F' hg => by obtain ⟨o, x1, x2, res, rfl, ho, h, rfl, rfl⟩ := hg; exact Nat.le_of_ble_eq_true rfl) (fun As F r F' hg => by obtain ⟨o, x1, x2, res, rfl, ho, h, rfl, rfl⟩ := hg; exact fX10_text_ok o x1 x2 _ _ ho h ⟨rfl, rfl⟩)
theorem mcX10_text : Cond.code yX10_text cX10_text 5 (some FieldType.int) ∈ xw_T ∧ Cond.initialized yX10_text.cls ∈ xw_T ∧ Cond.instanceMethod yX10_text ∈ xw_T ∧ Cond.selects yX10_text.cls yX10_text yX10_text ∈ xw_T := ⟨(xinT 1483 (by decide +kernel) (by decide +kernel)), (xinT 127 (by decide +kernel) (by decide +kernel)), (xinT 1481 (by decide +kernel) (by decide +kernel)), (xinT 1482 (by decide +kernel) (by decide +kernel))⟩
theorem dX10_fault_0 : decode cX10_fault 0 = .ok (.iload_n 1, 1) := by decide +kernel
theorem dX10_fault_1 : decode cX10_fault 1 = .ok (.ifCond .ne 13, 3) := by decide +kernel
theorem dX10_fault_4 : decode cX10_fault 4 = .ok (.aload_n 0, 1) := by decide +kernel
theorem dX10_fault_5 : decode cX10_fault 5 = .ok (.getfield 7, 3) := by decide +kernel
theorem dX10_fault_8 : decode cX10_fault 8 = .ok (.bipush 7, 2) := by decide +kernel
theorem dX10_fault_10 : decode cX10_fault 10 = .ok (.iaload, 1) := by decide +kernel
theorem dX10_fault_11 : decode cX10_fault 11 = .ok (.goto 19, 3) := by decide +kernel
theorem dX10_fault_14 : decode cX10_fault 14 = .ok (.iload_n 1, 1) := by decide +kernel
theorem dX10_fault_15 : decode cX10_fault 15 = .ok (.iconst 1, 1) := by decide +kernel
theorem dX10_fault_16 : decode cX10_fault 16 = .ok (.if_icmp .ne 13, 3) := by decide +kernel
theorem dX10_fault_19 : decode cX10_fault 19 = .ok (.aload_n 0, 1) := by decide +kernel
theorem dX10_fault_20 : decode cX10_fault 20 = .ok (.getfield 7, 3) := by decide +kernel
theorem dX10_fault_23 : decode cX10_fault 23 = .ok (.bipush 8, 2) := by decide +kernel
theorem dX10_fault_25 : decode cX10_fault 25 = .ok (.iaload, 1) := by decide +kernel
theorem dX10_fault_26 : decode cX10_fault 26 = .ok (.goto 4, 3) := by decide +kernel
theorem dX10_fault_29 : decode cX10_fault 29 = .ok (.iconst (-1), 1) := by decide +kernel
theorem dX10_fault_30 : decode cX10_fault 30 = .ok (.ireturn, 1) := by decide +kernel
def zX10_fault (Qr : Option PV → Mem → Prop) : XZ := (RX10, 0, 0, 2, some FieldType.int, Qr)
noncomputable def fX10_fault (o : Nat) (x1 : Int) (F : Mem) : Option Int :=
  if x1 ≠ 0 then
    if x1 ≠ 1 then
      some (-1)
    else
      if (0 : Int) ≤ 8 ∧ 8 < (alen (o + 1) : Int) then
        some (F (o + 1) 8)
      else none
  else
    if (0 : Int) ≤ 7 ∧ 7 < (alen (o + 1) : Int) then
      some (F (o + 1) 7)
    else none
theorem fX10_fault_ok {Qr : Option PV → Mem → Prop} : ∀ (o : Nat) (x1 : Int) (F : Mem) (res : Int) (ho : isK o 10), fX10_fault o x1 F = some res → Qr (some (vI res)) F → PR cX10_fault (zX10_fault Qr) 0 [(0, vR o), (1, vI x1)] [] F := by
  intro o x1 F res ho h hq
  refine s_iload_n (j := 1) dX10_fault_0 rfl rfl ?_
  refine s_if_ne (tgt := 14) dX10_fault_1 rfl (fun hc1 => ?_) (fun hc1 => ?_)
  · have h := ifp hc1 h
    refine s_iload_n (j := 1) dX10_fault_14 rfl rfl ?_
    refine s_iconst dX10_fault_15 (cin rfl) ?_
    refine s_icmp_ne (tgt := 29) dX10_fault_16 rfl (fun hc2 => ?_) (fun hc2 => ?_)
    · have h := ifp hc2 h
      refine s_iconst dX10_fault_29 (cin rfl) ?_
      have h := Option.some.inj h
      subst h
      exact s_ireturn dX10_fault_30 rfl hq
    · have h := ifn hc2 h
      refine s_aload_n (j := 0) dX10_fault_19 rfl rfl ?_
      refine s_getR dX10_fault_20 flX10_7 ho ?_
      refine s_bipush dX10_fault_23 rfl (cin rfl) ?_
      obtain ⟨hb3, h⟩ := gd h
      refine s_iaload dX10_fault_25 (trX10_0 ho) hb3.1 hb3.2 ?_
      refine s_goto (tgt := 30) dX10_fault_26 rfl ?_
      have h := Option.some.inj h
      subst h
      exact s_ireturn dX10_fault_30 rfl hq
  · have h := ifn hc1 h
    refine s_aload_n (j := 0) dX10_fault_4 rfl rfl ?_
    refine s_getR dX10_fault_5 flX10_7 ho ?_
    refine s_bipush dX10_fault_8 rfl (cin rfl) ?_
    obtain ⟨hb4, h⟩ := gd h
    refine s_iaload dX10_fault_10 (trX10_0 ho) hb4.1 hb4.2 ?_
    refine s_goto (tgt := 30) dX10_fault_11 rfl ?_
    have h := Option.some.inj h
    subst h
    exact s_ireturn dX10_fault_30 rfl hq
def gX10_fault : XG := fun As F r F' => ∃ o : Nat, ∃ x1 : Int, ∃ res : Int, As = [vR o, vI x1] ∧ isK o 10 ∧ fX10_fault o x1 F = some res ∧ r = some (vI res) ∧ F' = F
theorem ctX10_fault : xCT yX10_fault cX10_fault 2 (some FieldType.int) 0 0 gX10_fault := xmet (by decide +kernel) (fun As F r F' hg => by obtain ⟨o, x1, res, rfl, ho, h, rfl, rfl⟩ := hg; exact Nat.le_of_ble_eq_true rfl) (fun As F r F' hg => by obtain ⟨o, x1, res, rfl, ho, h, rfl, rfl⟩ := hg; exact fX10_fault_ok o x1 _ _ ho h ⟨rfl, rfl⟩)
theorem mcX10_fault : Cond.code yX10_fault cX10_fault 2 (some FieldType.int) ∈ xw_T ∧ Cond.initialized yX10_fault.cls ∈ xw_T ∧ Cond.instanceMethod yX10_fault ∈ xw_T ∧ Cond.selects yX10_fault.cls yX10_fault yX10_fault ∈ xw_T := ⟨(xinT 1576 (by decide +kernel) (by decide +kernel)), (xinT 127 (by decide +kernel) (by decide +kernel)), (xinT 1574 (by decide +kernel) (by decide +kernel)), (xinT 1575 (by decide +kernel) (by decide +kernel))⟩
theorem dX10_isValley__0 : decode cX10_isValley_ 0 = .ok (.aload_n 0, 1) := by decide +kernel
theorem dX10_isValley__1 : decode cX10_isValley_ 1 = .ok (.iconst 0, 1) := by decide +kernel
theorem dX10_isValley__2 : decode cX10_isValley_ 2 = .ok (.iload_n 1, 1) := by decide +kernel
theorem dX10_isValley__3 : decode cX10_isValley_ 3 = .ok (.invokevirtual 146, 3) := by decide +kernel
theorem dX10_isValley__6 : decode cX10_isValley_ 6 = .ok (.ifCond .ne 5, 3) := by decide +kernel
theorem dX10_isValley__9 : decode cX10_isValley_ 9 = .ok (.iconst 0, 1) := by decide +kernel
theorem dX10_isValley__10 : decode cX10_isValley_ 10 = .ok (.ireturn, 1) := by decide +kernel
theorem dX10_isValley__11 : decode cX10_isValley_ 11 = .ok (.aload_n 0, 1) := by decide +kernel
theorem dX10_isValley__12 : decode cX10_isValley_ 12 = .ok (.iconst 0, 1) := by decide +kernel
theorem dX10_isValley__13 : decode cX10_isValley_ 13 = .ok (.iload_n 1, 1) := by decide +kernel
theorem dX10_isValley__14 : decode cX10_isValley_ 14 = .ok (.invokestatic 169, 3) := by decide +kernel
theorem dX10_isValley__17 : decode cX10_isValley_ 17 = .ok (.putfield 172, 3) := by decide +kernel
theorem dX10_isValley__20 : decode cX10_isValley_ 20 = .ok (.iconst 1, 1) := by decide +kernel
theorem dX10_isValley__21 : decode cX10_isValley_ 21 = .ok (.ireturn, 1) := by decide +kernel
def zX10_isValley_ (Qr : Option PV → Mem → Prop) : XZ := (RX10, 2, 44, 2, some FieldType.boolean, Qr)
noncomputable def fX10_isValley_ (o : Nat) (x1 : Int) (F : Mem) : Option (Int × Mem) :=
  (fX10_isOf o 0 x1 F).bind fun r1 =>
  if r1 ≠ 0 then
    some (1, mset F o 10 (fX10_placeOf 0 x1))
  else
    some (0, F)
theorem fX10_isValley__ok {Qr : Option PV → Mem → Prop} : ∀ (o : Nat) (x1 : Int) (F : Mem) (res : (Int × Mem)) (ho : isK o 10), fX10_isValley_ o x1 F = some res → Qr (some (vI res.1)) res.2 → PR cX10_isValley_ (zX10_isValley_ Qr) 0 [(0, vR o), (1, vI x1)] [] F := by
  intro o x1 F res ho h hq
  refine s_aload_n (j := 0) dX10_isValley__0 rfl rfl ?_
  refine s_iconst dX10_isValley__1 (cin rfl) ?_
  refine s_iload_n (j := 1) dX10_isValley__2 rfl rfl ?_
  obtain ⟨r1, hv2, h⟩ := bnd h
  refine s_callV (As := [vI 0, vI x1]) (rest := []) (r := (some (vI r1))) (F' := F) dX10_isValley__3 (clX10_146 (Nat.le_of_ble_eq_true rfl) (Nat.le_of_ble_eq_true rfl)) ho rfl ⟨_, _, _, _, rfl, ho, hv2, rfl, rfl⟩ rfl (Nat.le_of_ble_eq_true rfl) ?_
  refine s_if_ne (tgt := 11) dX10_isValley__6 rfl (fun hc3 => ?_) (fun hc3 => ?_)
  · have h := ifp hc3 h
    refine s_aload_n (j := 0) dX10_isValley__11 rfl rfl ?_
    refine s_iconst dX10_isValley__12 (cin rfl) ?_
    refine s_iload_n (j := 1) dX10_isValley__13 rfl rfl ?_
    refine s_callS (As := [vI 0, vI x1]) (rest := [vR o]) (r := (some (vI (fX10_placeOf 0 x1)))) (F' := F) dX10_isValley__14 (clX10_169 (Nat.le_of_ble_eq_true rfl) (Nat.le_of_ble_eq_true rfl)) rfl ⟨_, _, _, rfl, rfl, rfl, rfl⟩ rfl (Nat.le_of_ble_eq_true rfl) ?_
    refine s_putI dX10_isValley__17 flX10_172 fpX10_10 ho ?_
    refine s_iconst dX10_isValley__20 (cin rfl) ?_
    have h := Option.some.inj h
    subst h
    exact s_zreturn dX10_isValley__21 rfl (Or.inr rfl) hq
  · have h := ifn hc3 h
    refine s_iconst dX10_isValley__9 (cin rfl) ?_
    have h := Option.some.inj h
    subst h
    exact s_zreturn dX10_isValley__10 rfl (Or.inl rfl) hq
def gX10_isValley_ : XG := fun As F r F' => ∃ o : Nat, ∃ x1 : Int, ∃ res : (Int × Mem), As = [vR o, vI x1] ∧ isK o 10 ∧ fX10_isValley_ o x1 F = some res ∧ r = some (vI res.1) ∧ F' = res.2
theorem ctX10_isValley_ : xCT yX10_isValley_ cX10_isValley_ 2 (some FieldType.boolean) 2 44 gX10_isValley_ := xmet (by decide +kernel) (fun As F r F' hg => by obtain ⟨o, x1, res, rfl, ho, h, rfl, rfl⟩ := hg; exact Nat.le_of_ble_eq_true rfl) (fun As F r F' hg => by obtain ⟨o, x1, res, rfl, ho, h, rfl, rfl⟩ := hg; exact fX10_isValley__ok o x1 _ _ ho h ⟨rfl, rfl⟩)
theorem mcX10_isValley_ : Cond.code yX10_isValley_ cX10_isValley_ 2 (some FieldType.boolean) ∈ xw_T ∧ Cond.initialized yX10_isValley_.cls ∈ xw_T ∧ Cond.instanceMethod yX10_isValley_ ∈ xw_T ∧ Cond.selects yX10_isValley_.cls yX10_isValley_ yX10_isValley_ ∈ xw_T := ⟨(xinT 1584 (by decide +kernel) (by decide +kernel)), (xinT 127 (by decide +kernel) (by decide +kernel)), (xinT 1583 (by decide +kernel) (by decide +kernel)), (xinT 56 (by decide +kernel) (by decide +kernel))⟩
theorem clX10_184 {fr lo : Nat} (h1 : 2 + 1 ≤ fr) (h2 : 8 + (2 + 11) + 44 ≤ lo) : xCall RX10 fr lo 0 184 10 1 gX10_isValley_ := ⟨_, _, _, _, _, _, ctX10_isValley_, h1, h2, mcX10_isValley_.1, (xinT 1581 (by decide +kernel) (by decide +kernel)), mcX10_isValley_.2.1, ⟨by decide +kernel, by decide +kernel, by decide +kernel⟩, by rw [if_pos rfl]; exact ⟨mcX10_isValley_.2.2.1, mcX10_isValley_.2.2.2, _, _, rfl⟩⟩
theorem dX10_of_0 : decode cX10_of 0 = .ok (.aload_n 0, 1) := by decide +kernel
theorem dX10_of_1 : decode cX10_of 1 = .ok (.getfield 7, 3) := by decide +kernel
theorem dX10_of_4 : decode cX10_of 4 = .ok (.aload_n 0, 1) := by decide +kernel
theorem dX10_of_5 : decode cX10_of 5 = .ok (.getfield 172, 3) := by decide +kernel
theorem dX10_of_8 : decode cX10_of 8 = .ok (.iload_n 1, 1) := by decide +kernel
theorem dX10_of_9 : decode cX10_of 9 = .ok (.iadd, 1) := by decide +kernel
theorem dX10_of_10 : decode cX10_of 10 = .ok (.iaload, 1) := by decide +kernel
theorem dX10_of_11 : decode cX10_of 11 = .ok (.ireturn, 1) := by decide +kernel
def zX10_of (Qr : Option PV → Mem → Prop) : XZ := (RX10, 0, 0, 2, some FieldType.int, Qr)
noncomputable def fX10_of (o : Nat) (x1 : Int) (F : Mem) : Option Int :=
  if (0 : Int) ≤ (xw ((F o 10) + x1)) ∧ (xw ((F o 10) + x1)) < (alen (o + 1) : Int) then
    some (F (o + 1) (xw ((F o 10) + x1)).toNat)
  else none
theorem fX10_of_ok {Qr : Option PV → Mem → Prop} : ∀ (o : Nat) (x1 : Int) (F : Mem) (res : Int) (ho : isK o 10), fX10_of o x1 F = some res → Qr (some (vI res)) F → PR cX10_of (zX10_of Qr) 0 [(0, vR o), (1, vI x1)] [] F := by
  intro o x1 F res ho h hq
  refine s_aload_n (j := 0) dX10_of_0 rfl rfl ?_
  refine s_getR dX10_of_1 flX10_7 ho ?_
  refine s_aload_n (j := 0) dX10_of_4 rfl rfl ?_
  refine s_getI dX10_of_5 flX10_172 ho ?_
  refine s_iload_n (j := 1) dX10_of_8 rfl rfl ?_
  refine s_iadd dX10_of_9 ?_
  obtain ⟨hb1, h⟩ := gd h
  refine s_iaload dX10_of_10 (trX10_0 ho) hb1.1 hb1.2 ?_
  have h := Option.some.inj h
  subst h
  exact s_ireturn dX10_of_11 rfl hq
def gX10_of : XG := fun As F r F' => ∃ o : Nat, ∃ x1 : Int, ∃ res : Int, As = [vR o, vI x1] ∧ isK o 10 ∧ fX10_of o x1 F = some res ∧ r = some (vI res) ∧ F' = F
theorem ctX10_of : xCT yX10_of cX10_of 2 (some FieldType.int) 0 0 gX10_of := xmet (by decide +kernel) (fun As F r F' hg => by obtain ⟨o, x1, res, rfl, ho, h, rfl, rfl⟩ := hg; exact Nat.le_of_ble_eq_true rfl) (fun As F r F' hg => by obtain ⟨o, x1, res, rfl, ho, h, rfl, rfl⟩ := hg; exact fX10_of_ok o x1 _ _ ho h ⟨rfl, rfl⟩)
theorem mcX10_of : Cond.code yX10_of cX10_of 2 (some FieldType.int) ∈ xw_T ∧ Cond.initialized yX10_of.cls ∈ xw_T ∧ Cond.instanceMethod yX10_of ∈ xw_T ∧ Cond.selects yX10_of.cls yX10_of yX10_of ∈ xw_T := ⟨(xinT 1588 (by decide +kernel) (by decide +kernel)), (xinT 127 (by decide +kernel) (by decide +kernel)), (xinT 1587 (by decide +kernel) (by decide +kernel)), (xinT 57 (by decide +kernel) (by decide +kernel))⟩
theorem clX10_181 {fr lo : Nat} (h1 : 0 + 1 ≤ fr) (h2 : 8 + (2 + 11) + 0 ≤ lo) : xCall RX10 fr lo 0 181 10 1 gX10_of := ⟨_, _, _, _, _, _, ctX10_of, h1, h2, mcX10_of.1, (xinT 1585 (by decide +kernel) (by decide +kernel)), mcX10_of.2.1, ⟨by decide +kernel, by decide +kernel, by decide +kernel⟩, by rw [if_pos rfl]; exact ⟨mcX10_of.2.2.1, mcX10_of.2.2.2, _, _, rfl⟩⟩
