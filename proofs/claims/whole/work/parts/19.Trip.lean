theorem dX6_nextFrom_0 : decode cX6_nextFrom 0 = .ok (.aload_n 0, 1) := by decide +kernel
theorem dX6_nextFrom_1 : decode cX6_nextFrom 1 = .ok (.iload_n 1, 1) := by decide +kernel
theorem dX6_nextFrom_2 : decode cX6_nextFrom 2 = .ok (.iload_n 2, 1) := by decide +kernel
theorem dX6_nextFrom_3 : decode cX6_nextFrom 3 = .ok (.invokevirtual 62, 3) := by decide +kernel
theorem dX6_nextFrom_6 : decode cX6_nextFrom 6 = .ok (.istore_n 3, 1) := by decide +kernel
theorem dX6_nextFrom_7 : decode cX6_nextFrom 7 = .ok (.aload_n 0, 1) := by decide +kernel
theorem dX6_nextFrom_8 : decode cX6_nextFrom 8 = .ok (.iload_n 1, 1) := by decide +kernel
theorem dX6_nextFrom_9 : decode cX6_nextFrom 9 = .ok (.iload_n 2, 1) := by decide +kernel
theorem dX6_nextFrom_10 : decode cX6_nextFrom 10 = .ok (.invokevirtual 65, 3) := by decide +kernel
theorem dX6_nextFrom_13 : decode cX6_nextFrom 13 = .ok (.iload_n 3, 1) := by decide +kernel
theorem dX6_nextFrom_14 : decode cX6_nextFrom 14 = .ok (.if_icmp .ne 5, 3) := by decide +kernel
theorem dX6_nextFrom_17 : decode cX6_nextFrom 17 = .ok (.iload_n 2, 1) := by decide +kernel
theorem dX6_nextFrom_18 : decode cX6_nextFrom 18 = .ok (.ireturn, 1) := by decide +kernel
theorem dX6_nextFrom_19 : decode cX6_nextFrom 19 = .ok (.iconst 0, 1) := by decide +kernel
theorem dX6_nextFrom_20 : decode cX6_nextFrom 20 = .ok (.istore 4, 2) := by decide +kernel
theorem dX6_nextFrom_22 : decode cX6_nextFrom 22 = .ok (.iload 4, 2) := by decide +kernel
theorem dX6_nextFrom_24 : decode cX6_nextFrom 24 = .ok (.aload_n 0, 1) := by decide +kernel
theorem dX6_nextFrom_25 : decode cX6_nextFrom 25 = .ok (.getfield 32, 3) := by decide +kernel
theorem dX6_nextFrom_28 : decode cX6_nextFrom 28 = .ok (.getfield 68, 3) := by decide +kernel
theorem dX6_nextFrom_31 : decode cX6_nextFrom 31 = .ok (.getfield 72, 3) := by decide +kernel
theorem dX6_nextFrom_34 : decode cX6_nextFrom 34 = .ok (.if_icmp .ge 30, 3) := by decide +kernel
theorem dX6_nextFrom_37 : decode cX6_nextFrom 37 = .ok (.iload 4, 2) := by decide +kernel
theorem dX6_nextFrom_39 : decode cX6_nextFrom 39 = .ok (.iload_n 2, 1) := by decide +kernel
theorem dX6_nextFrom_40 : decode cX6_nextFrom 40 = .ok (.if_icmp .eq 18, 3) := by decide +kernel
theorem dX6_nextFrom_43 : decode cX6_nextFrom 43 = .ok (.aload_n 0, 1) := by decide +kernel
theorem dX6_nextFrom_44 : decode cX6_nextFrom 44 = .ok (.iload_n 1, 1) := by decide +kernel
theorem dX6_nextFrom_45 : decode cX6_nextFrom 45 = .ok (.iload_n 2, 1) := by decide +kernel
theorem dX6_nextFrom_46 : decode cX6_nextFrom 46 = .ok (.iload 4, 2) := by decide +kernel
theorem dX6_nextFrom_48 : decode cX6_nextFrom 48 = .ok (.invokevirtual 77, 3) := by decide +kernel
theorem dX6_nextFrom_51 : decode cX6_nextFrom 51 = .ok (.iload_n 3, 1) := by decide +kernel
theorem dX6_nextFrom_52 : decode cX6_nextFrom 52 = .ok (.if_icmp .ne 6, 3) := by decide +kernel
theorem dX6_nextFrom_55 : decode cX6_nextFrom 55 = .ok (.iload 4, 2) := by decide +kernel
theorem dX6_nextFrom_57 : decode cX6_nextFrom 57 = .ok (.ireturn, 1) := by decide +kernel
theorem dX6_nextFrom_58 : decode cX6_nextFrom 58 = .ok (.iinc 4 1, 3) := by decide +kernel
theorem dX6_nextFrom_61 : decode cX6_nextFrom 61 = .ok (.goto (-39), 3) := by decide +kernel
theorem dX6_nextFrom_64 : decode cX6_nextFrom 64 = .ok (.iload_n 2, 1) := by decide +kernel
theorem dX6_nextFrom_65 : decode cX6_nextFrom 65 = .ok (.ireturn, 1) := by decide +kernel
def zX6_nextFrom (Qr : Option PV → Mem → Prop) : XZ := (RX6, 2, 45, 5, some FieldType.int, Qr)
noncomputable def fX6_nextFrom_b22 (F : Mem) : Nat → Nat → Int → Int → Int → Int → Option Int
  | 0, _, _, _, _, _ => none
  | n + 1, x0, x1, x2, x3, x4 =>
    if x0 = 0 then none else
    if (F x0 0).toNat = 0 then none else
    if (F (((F x0 0).toNat) + 1) 3) ≤ x4 then
      some x2
    else
      if x4 = x2 then
        fX6_nextFrom_b22 F n x0 x1 x2 x3 (xw (x4 + 1))
      else
        if x0 = 0 then none else
        (fX1_going x0 x1 x2 x4 F).bind fun r7 =>
        if r7 ≠ x3 then
          fX6_nextFrom_b22 F n x0 x1 x2 x3 (xw (x4 + 1))
        else
          some x4
noncomputable def fX6_nextFrom (x0 : Nat) (x1 : Int) (x2 : Int) (F : Mem) : Option Int :=
  if x0 = 0 then none else
  (fX1_scoreAt x0 x1 x2 F).bind fun r2 =>
  if x0 = 0 then none else
  (fX1_staying x0 x1 x2 F).bind fun r5 =>
  if r5 ≠ r2 then
    fX6_nextFrom_b22 F FU x0 x1 x2 r2 0
  else
    some x2
theorem fX6_nextFrom_b22_ok {Qr : Option PV → Mem → Prop}  (F : Mem) : ∀ (n : Nat) (x0 : Nat) (x1 : Int) (x2 : Int) (x3 : Int) (x4 : Int) (res : Int) (hx0 : x0 = 0 ∨ isK x0 1), fX6_nextFrom_b22 F n x0 x1 x2 x3 x4 = some res → Qr (some (vI res)) F → PR cX6_nextFrom (zX6_nextFrom Qr) 22 [(0, vR x0), (1, vI x1), (2, vI x2), (3, vI x3), (4, vI x4)] [] F := by
  intro n
  induction n with
  | zero => intro x0 x1 x2 x3 x4 res hx0 h hq; exact nomatch (show (none : Option _) = some _ from h)
  | succ n ih =>
    intro x0 x1 x2 x3 x4 res hx0 h hq
    refine s_iload (j := 4) dX6_nextFrom_22 rfl ?_
    refine s_aload_n (j := 0) dX6_nextFrom_24 rfl rfl ?_
    obtain ⟨hn1, h⟩ := gdn h
    refine s_getM dX6_nextFrom_25 flX6_32 (hx0.resolve_left hn1) (fun hm2 => ?_)
    have hm2 : _ = 0 ∨ isK ((F x0 0).toNat) 7 := hm2
    obtain ⟨hn3, h⟩ := gdn h
    refine s_getR dX6_nextFrom_28 flX6_68 (hm2.resolve_left hn3) ?_
    refine s_getI dX6_nextFrom_31 flX6_72 (trX7_5 (hm2.resolve_left hn3)) ?_
    refine s_icmp_ge (tgt := 64) dX6_nextFrom_34 rfl (fun hc4 => ?_) (fun hc4 => ?_)
    · have h := ifp hc4 h
      refine s_iload_n (j := 2) dX6_nextFrom_64 rfl rfl ?_
      have h := Option.some.inj h
      subst h
      exact s_ireturn dX6_nextFrom_65 rfl hq
    · have h := ifn hc4 h
      refine s_iload (j := 4) dX6_nextFrom_37 rfl ?_
      refine s_iload_n (j := 2) dX6_nextFrom_39 rfl rfl ?_
      refine s_icmp_eq (tgt := 58) dX6_nextFrom_40 rfl (fun hc5 => ?_) (fun hc5 => ?_)
      · have h := ifp hc5 h
        refine s_iinc (ls' := [(4, vI (xw (x4 + 1))), (0, vR x0), (1, vI x1), (2, vI x2), (3, vI x3)]) (j := 4) dX6_nextFrom_58 rfl (Nat.le_of_ble_eq_true rfl) rfl ?_
        refine s_goto (tgt := 22) dX6_nextFrom_61 rfl ?_
        exact s_sub (ks := [1, 2, 3, 4, 0]) rfl (ih x0 x1 x2 x3 (xw (x4 + 1)) _ hx0 h hq)
      · have h := ifn hc5 h
        refine s_aload_n (j := 0) dX6_nextFrom_43 rfl rfl ?_
        refine s_iload_n (j := 1) dX6_nextFrom_44 rfl rfl ?_
        refine s_iload_n (j := 2) dX6_nextFrom_45 rfl rfl ?_
        refine s_iload (j := 4) dX6_nextFrom_46 rfl ?_
        obtain ⟨hn6, h⟩ := gdn h
        obtain ⟨r7, hv8, h⟩ := bnd h
        refine s_callV (As := [vI x1, vI x2, vI x4]) (rest := []) (r := (some (vI r7))) (F' := F) dX6_nextFrom_48 (clX6_77 (Nat.le_of_ble_eq_true rfl) (Nat.le_of_ble_eq_true rfl)) (hx0.resolve_left hn6) rfl ⟨_, _, _, _, _, rfl, (hx0.resolve_left hn6), hv8, rfl, rfl⟩ rfl (Nat.le_of_ble_eq_true rfl) ?_
        refine s_iload_n (j := 3) dX6_nextFrom_51 rfl rfl ?_
        refine s_icmp_ne (tgt := 58) dX6_nextFrom_52 rfl (fun hc9 => ?_) (fun hc9 => ?_)
        · have h := ifp hc9 h
          refine s_iinc (ls' := [(4, vI (xw (x4 + 1))), (0, vR x0), (1, vI x1), (2, vI x2), (3, vI x3)]) (j := 4) dX6_nextFrom_58 rfl (Nat.le_of_ble_eq_true rfl) rfl ?_
          refine s_goto (tgt := 22) dX6_nextFrom_61 rfl ?_
          exact s_sub (ks := [1, 2, 3, 4, 0]) rfl (ih x0 x1 x2 x3 (xw (x4 + 1)) _ hx0 h hq)
        · have h := ifn hc9 h
          refine s_iload (j := 4) dX6_nextFrom_55 rfl ?_
          have h := Option.some.inj h
          subst h
          exact s_ireturn dX6_nextFrom_57 rfl hq
theorem fX6_nextFrom_ok {Qr : Option PV → Mem → Prop} : ∀ (x0 : Nat) (x1 : Int) (x2 : Int) (F : Mem) (res : Int) (hx0 : x0 = 0 ∨ isK x0 1), fX6_nextFrom x0 x1 x2 F = some res → Qr (some (vI res)) F → PR cX6_nextFrom (zX6_nextFrom Qr) 0 [(0, vR x0), (1, vI x1), (2, vI x2)] [] F := by
  intro x0 x1 x2 F res hx0 h hq
  refine s_aload_n (j := 0) dX6_nextFrom_0 rfl rfl ?_
  refine s_iload_n (j := 1) dX6_nextFrom_1 rfl rfl ?_
  refine s_iload_n (j := 2) dX6_nextFrom_2 rfl rfl ?_
  obtain ⟨hn1, h⟩ := gdn h
  obtain ⟨r2, hv3, h⟩ := bnd h
  refine s_callV (As := [vI x1, vI x2]) (rest := []) (r := (some (vI r2))) (F' := F) dX6_nextFrom_3 (clX6_62 (Nat.le_of_ble_eq_true rfl) (Nat.le_of_ble_eq_true rfl)) (hx0.resolve_left hn1) rfl ⟨_, _, _, _, rfl, (hx0.resolve_left hn1), hv3, rfl, rfl⟩ rfl (Nat.le_of_ble_eq_true rfl) ?_
  refine s_istore_n (ls' := [(3, vI r2), (0, vR x0), (1, vI x1), (2, vI x2)]) dX6_nextFrom_6 rfl (Nat.le_of_ble_eq_true rfl) rfl ?_
  refine s_aload_n (j := 1) dX6_nextFrom_7 rfl rfl ?_
  refine s_iload_n (j := 2) dX6_nextFrom_8 rfl rfl ?_
  refine s_iload_n (j := 3) dX6_nextFrom_9 rfl rfl ?_
  obtain ⟨hn4, h⟩ := gdn h
  obtain ⟨r5, hv6, h⟩ := bnd h
  refine s_callV (As := [vI x1, vI x2]) (rest := []) (r := (some (vI r5))) (F' := F) dX6_nextFrom_10 (clX6_65 (Nat.le_of_ble_eq_true rfl) (Nat.le_of_ble_eq_true rfl)) (hx0.resolve_left hn4) rfl ⟨_, _, _, _, rfl, (hx0.resolve_left hn4), hv6, rfl, rfl⟩ rfl (Nat.le_of_ble_eq_true rfl) ?_
  refine s_iload_n (j := 0) dX6_nextFrom_13 rfl rfl ?_
  refine s_icmp_ne (tgt := 19) dX6_nextFrom_14 rfl (fun hc7 => ?_) (fun hc7 => ?_)
  · have h := ifp hc7 h
    refine s_iconst dX6_nextFrom_19 (cin rfl) ?_
    refine s_istore (ls' := [(4, vI 0), (3, vI r2), (0, vR x0), (1, vI x1), (2, vI x2)]) dX6_nextFrom_20 (Nat.le_of_ble_eq_true rfl) rfl ?_
    exact s_sub (ks := [2, 3, 4, 1, 0]) rfl (fX6_nextFrom_b22_ok F FU x0 x1 x2 r2 0 _ hx0 h hq)
  · have h := ifn hc7 h
    refine s_iload_n (j := 3) dX6_nextFrom_17 rfl rfl ?_
    have h := Option.some.inj h
    subst h
    exact s_ireturn dX6_nextFrom_18 rfl hq
def gX6_nextFrom : XG := fun As F r F' => ∃ x0 : Nat, ∃ x1 : Int, ∃ x2 : Int, ∃ res : Int, As = [vR x0, vI x1, vI x2] ∧ (x0 = 0 ∨ isK x0 1) ∧ fX6_nextFrom x0 x1 x2 F = some res ∧ r = some (vI res) ∧ F' = F
theorem ctX6_nextFrom : xCT yX6_nextFrom cX6_nextFrom 5 (some FieldType.int) 2 45 gX6_nextFrom := xmet (by decide +kernel) (fun As F r F' hg => by obtain ⟨x0, x1, x2, res, rfl, hx0, h, rfl, rfl⟩ := hg; exact Nat.le_of_ble_eq_true rfl) (fun As F r F' hg => by obtain ⟨x0, x1, x2, res, rfl, hx0, h, rfl, rfl⟩ := hg; exact fX6_nextFrom_ok x0 x1 x2 _ _ hx0 h ⟨rfl, rfl⟩)
theorem mcX6_nextFrom : Cond.code yX6_nextFrom cX6_nextFrom 5 (some FieldType.int) ∈ xw_T ∧ Cond.initialized yX6_nextFrom.cls ∈ xw_T ∧ Cond.static yX6_nextFrom ∈ xw_T := ⟨(xinT 1084 (by decide +kernel) (by decide +kernel)), (xinT 125 (by decide +kernel) (by decide +kernel)), (xinT 1083 (by decide +kernel) (by decide +kernel))⟩
theorem clX6_46 {fr lo : Nat} (h1 : 2 + 1 ≤ fr) (h2 : 8 + (5 + 11) + 45 ≤ lo) : xCall RX6 fr lo 1 46 0 3 gX6_nextFrom := ⟨_, _, _, _, _, _, ctX6_nextFrom, h1, h2, mcX6_nextFrom.1, (xinT 1082 (by decide +kernel) (by decide +kernel)), mcX6_nextFrom.2.1, ⟨by decide +kernel, by decide +kernel, by decide +kernel⟩, by rw [if_neg (by decide)]; exact mcX6_nextFrom.2.2⟩
theorem dX6_follow_0 : decode cX6_follow 0 = .ok (.aload_n 1, 1) := by decide +kernel
theorem dX6_follow_1 : decode cX6_follow 1 = .ok (.getfield 32, 3) := by decide +kernel
theorem dX6_follow_4 : decode cX6_follow 4 = .ok (.getfield 38, 3) := by decide +kernel
theorem dX6_follow_7 : decode cX6_follow 7 = .ok (.istore_n 2, 1) := by decide +kernel
theorem dX6_follow_8 : decode cX6_follow 8 = .ok (.iconst 0, 1) := by decide +kernel
theorem dX6_follow_9 : decode cX6_follow 9 = .ok (.istore_n 3, 1) := by decide +kernel
theorem dX6_follow_10 : decode cX6_follow 10 = .ok (.iconst 0, 1) := by decide +kernel
theorem dX6_follow_11 : decode cX6_follow 11 = .ok (.istore 4, 2) := by decide +kernel
theorem dX6_follow_13 : decode cX6_follow 13 = .ok (.iload 4, 2) := by decide +kernel
theorem dX6_follow_15 : decode cX6_follow 15 = .ok (.aload_n 1, 1) := by decide +kernel
theorem dX6_follow_16 : decode cX6_follow 16 = .ok (.getfield 43, 3) := by decide +kernel
theorem dX6_follow_19 : decode cX6_follow 19 = .ok (.if_icmp .ge 157, 3) := by decide +kernel
theorem dX6_follow_22 : decode cX6_follow 22 = .ok (.iload_n 3, 1) := by decide +kernel
theorem dX6_follow_23 : decode cX6_follow 23 = .ok (.aload_n 1, 1) := by decide +kernel
theorem dX6_follow_24 : decode cX6_follow 24 = .ok (.getfield 43, 3) := by decide +kernel
theorem dX6_follow_27 : decode cX6_follow 27 = .ok (.if_icmp .ge 149, 3) := by decide +kernel
theorem dX6_follow_30 : decode cX6_follow 30 = .ok (.aload_n 1, 1) := by decide +kernel
theorem dX6_follow_31 : decode cX6_follow 31 = .ok (.iload_n 3, 1) := by decide +kernel
theorem dX6_follow_32 : decode cX6_follow 32 = .ok (.iload_n 2, 1) := by decide +kernel
theorem dX6_follow_33 : decode cX6_follow 33 = .ok (.invokestatic 46, 3) := by decide +kernel
theorem dX6_follow_36 : decode cX6_follow 36 = .ok (.istore 5, 2) := by decide +kernel
theorem dX6_follow_38 : decode cX6_follow 38 = .ok (.iload 5, 2) := by decide +kernel
theorem dX6_follow_40 : decode cX6_follow 40 = .ok (.iload_n 2, 1) := by decide +kernel
theorem dX6_follow_41 : decode cX6_follow 41 = .ok (.if_icmp .ne 9, 3) := by decide +kernel
theorem dX6_follow_44 : decode cX6_follow 44 = .ok (.iload_n 3, 1) := by decide +kernel
theorem dX6_follow_45 : decode cX6_follow 45 = .ok (.iconst 1, 1) := by decide +kernel
theorem dX6_follow_46 : decode cX6_follow 46 = .ok (.iadd, 1) := by decide +kernel
theorem dX6_follow_47 : decode cX6_follow 47 = .ok (.goto 16, 3) := by decide +kernel
theorem dX6_follow_50 : decode cX6_follow 50 = .ok (.iload_n 3, 1) := by decide +kernel
theorem dX6_follow_51 : decode cX6_follow 51 = .ok (.iconst 1, 1) := by decide +kernel
theorem dX6_follow_52 : decode cX6_follow 52 = .ok (.aload_n 1, 1) := by decide +kernel
theorem dX6_follow_53 : decode cX6_follow 53 = .ok (.iload_n 2, 1) := by decide +kernel
theorem dX6_follow_54 : decode cX6_follow 54 = .ok (.iload 5, 2) := by decide +kernel
theorem dX6_follow_56 : decode cX6_follow 56 = .ok (.invokevirtual 50, 3) := by decide +kernel
theorem dX6_follow_59 : decode cX6_follow 59 = .ok (.invokestatic 54, 3) := by decide +kernel
theorem dX6_follow_62 : decode cX6_follow 62 = .ok (.iadd, 1) := by decide +kernel
theorem dX6_follow_63 : decode cX6_follow 63 = .ok (.istore 6, 2) := by decide +kernel
theorem dX6_follow_65 : decode cX6_follow 65 = .ok (.iload 5, 2) := by decide +kernel
theorem dX6_follow_67 : decode cX6_follow 67 = .ok (.iload_n 2, 1) := by decide +kernel
theorem dX6_follow_68 : decode cX6_follow 68 = .ok (.if_icmp .ne 7, 3) := by decide +kernel
theorem dX6_follow_71 : decode cX6_follow 71 = .ok (.iload_n 3, 1) := by decide +kernel
theorem dX6_follow_72 : decode cX6_follow 72 = .ok (.goto 5, 3) := by decide +kernel
theorem dX6_follow_75 : decode cX6_follow 75 = .ok (.iload 6, 2) := by decide +kernel
theorem dX6_follow_77 : decode cX6_follow 77 = .ok (.istore 7, 2) := by decide +kernel
theorem dX6_follow_79 : decode cX6_follow 79 = .ok (.iload_n 3, 1) := by decide +kernel
theorem dX6_follow_80 : decode cX6_follow 80 = .ok (.istore 8, 2) := by decide +kernel
theorem dX6_follow_82 : decode cX6_follow 82 = .ok (.iload 8, 2) := by decide +kernel
theorem dX6_follow_84 : decode cX6_follow 84 = .ok (.iload 6, 2) := by decide +kernel
theorem dX6_follow_86 : decode cX6_follow 86 = .ok (.if_icmp .ge 78, 3) := by decide +kernel
theorem dX6_follow_89 : decode cX6_follow 89 = .ok (.iload 8, 2) := by decide +kernel
theorem dX6_follow_91 : decode cX6_follow 91 = .ok (.aload_n 1, 1) := by decide +kernel
theorem dX6_follow_92 : decode cX6_follow 92 = .ok (.getfield 43, 3) := by decide +kernel
theorem dX6_follow_95 : decode cX6_follow 95 = .ok (.if_icmp .ge 69, 3) := by decide +kernel
theorem dX6_follow_98 : decode cX6_follow 98 = .ok (.aload_n 0, 1) := by decide +kernel
theorem dX6_follow_99 : decode cX6_follow 99 = .ok (.getfield 9, 3) := by decide +kernel
theorem dX6_follow_102 : decode cX6_follow 102 = .ok (.iload 8, 2) := by decide +kernel
theorem dX6_follow_104 : decode cX6_follow 104 = .ok (.iload 5, 2) := by decide +kernel
theorem dX6_follow_106 : decode cX6_follow 106 = .ok (.iload_n 2, 1) := by decide +kernel
theorem dX6_follow_107 : decode cX6_follow 107 = .ok (.if_icmp .ne 7, 3) := by decide +kernel
theorem dX6_follow_110 : decode cX6_follow 110 = .ok (.iload_n 2, 1) := by decide +kernel
theorem dX6_follow_111 : decode cX6_follow 111 = .ok (.goto 4, 3) := by decide +kernel
theorem dX6_follow_114 : decode cX6_follow 114 = .ok (.iconst (-1), 1) := by decide +kernel
theorem dX6_follow_115 : decode cX6_follow 115 = .ok (.iastore, 1) := by decide +kernel
theorem dX6_follow_116 : decode cX6_follow 116 = .ok (.aload_n 0, 1) := by decide +kernel
theorem dX6_follow_117 : decode cX6_follow 117 = .ok (.getfield 15, 3) := by decide +kernel
theorem dX6_follow_120 : decode cX6_follow 120 = .ok (.iload 8, 2) := by decide +kernel
theorem dX6_follow_122 : decode cX6_follow 122 = .ok (.iload 5, 2) := by decide +kernel
theorem dX6_follow_124 : decode cX6_follow 124 = .ok (.iload_n 2, 1) := by decide +kernel
theorem dX6_follow_125 : decode cX6_follow 125 = .ok (.if_icmp .ne 13, 3) := by decide +kernel
theorem dX6_follow_128 : decode cX6_follow 128 = .ok (.aload_n 1, 1) := by decide +kernel
theorem dX6_follow_129 : decode cX6_follow 129 = .ok (.iload 8, 2) := by decide +kernel
theorem dX6_follow_131 : decode cX6_follow 131 = .ok (.iload_n 2, 1) := by decide +kernel
theorem dX6_follow_132 : decode cX6_follow 132 = .ok (.invokevirtual 59, 3) := by decide +kernel
theorem dX6_follow_135 : decode cX6_follow 135 = .ok (.goto 4, 3) := by decide +kernel
theorem dX6_follow_138 : decode cX6_follow 138 = .ok (.iconst 0, 1) := by decide +kernel
theorem dX6_follow_139 : decode cX6_follow 139 = .ok (.iastore, 1) := by decide +kernel
theorem dX6_follow_140 : decode cX6_follow 140 = .ok (.aload_n 0, 1) := by decide +kernel
theorem dX6_follow_141 : decode cX6_follow 141 = .ok (.getfield 18, 3) := by decide +kernel
theorem dX6_follow_144 : decode cX6_follow 144 = .ok (.iload 8, 2) := by decide +kernel
theorem dX6_follow_146 : decode cX6_follow 146 = .ok (.iload 7, 2) := by decide +kernel
theorem dX6_follow_148 : decode cX6_follow 148 = .ok (.iastore, 1) := by decide +kernel
theorem dX6_follow_149 : decode cX6_follow 149 = .ok (.aload_n 0, 1) := by decide +kernel
theorem dX6_follow_150 : decode cX6_follow 150 = .ok (.getfield 21, 3) := by decide +kernel
theorem dX6_follow_153 : decode cX6_follow 153 = .ok (.iload 8, 2) := by decide +kernel
theorem dX6_follow_155 : decode cX6_follow 155 = .ok (.iload 5, 2) := by decide +kernel
theorem dX6_follow_157 : decode cX6_follow 157 = .ok (.iastore, 1) := by decide +kernel
theorem dX6_follow_158 : decode cX6_follow 158 = .ok (.iinc 8 1, 3) := by decide +kernel
theorem dX6_follow_161 : decode cX6_follow 161 = .ok (.goto (-79), 3) := by decide +kernel
theorem dX6_follow_164 : decode cX6_follow 164 = .ok (.iload 6, 2) := by decide +kernel
theorem dX6_follow_166 : decode cX6_follow 166 = .ok (.istore_n 3, 1) := by decide +kernel
theorem dX6_follow_167 : decode cX6_follow 167 = .ok (.iload 5, 2) := by decide +kernel
theorem dX6_follow_169 : decode cX6_follow 169 = .ok (.istore_n 2, 1) := by decide +kernel
theorem dX6_follow_170 : decode cX6_follow 170 = .ok (.iinc 4 1, 3) := by decide +kernel
theorem dX6_follow_173 : decode cX6_follow 173 = .ok (.goto (-160), 3) := by decide +kernel
theorem dX6_follow_176 : decode cX6_follow 176 = .ok (.aload_n 0, 1) := by decide +kernel
theorem dX6_follow_177 : decode cX6_follow 177 = .ok (.iload_n 2, 1) := by decide +kernel
theorem dX6_follow_178 : decode cX6_follow 178 = .ok (.putfield 24, 3) := by decide +kernel
theorem dX6_follow_181 : decode cX6_follow 181 = .ok (.return_, 1) := by decide +kernel
def zX6_follow (Qr : Option PV → Mem → Prop) : XZ := (RX6, 3, 69, 9, none, Qr)
noncomputable def fX6_follow_b115 (k13 : Nat → Nat → Int → Int → Int → Mem → Option Mem) (k82 : Nat → Nat → Int → Int → Int → Int → Int → Int → Mem → Option Mem) (o : Nat) (x1 : Nat) (x2 : Int) (x4 : Int) (x5 : Int) (x6 : Int) (x7 : Int) (x8 : Int) (s0 : Nat) (s1 : Int) (s2 : Int) (F : Mem) : Option Mem :=
  if (0 : Int) ≤ s1 ∧ s1 < (alen s0 : Int) then
    if x5 ≠ x2 then
      if (0 : Int) ≤ x8 ∧ x8 < (alen (o + 2) : Int) then
        if (0 : Int) ≤ x8 ∧ x8 < (alen (o + 3) : Int) then
          if (0 : Int) ≤ x8 ∧ x8 < (alen (o + 4) : Int) then
            k82 o x1 x2 x4 x5 x6 x7 (xw (x8 + 1)) (mset (mset (mset (mset F s0 s1.toNat s2) (o + 2) x8.toNat 0) (o + 3) x8.toNat x7) (o + 4) x8.toNat x5)
          else none
        else none
      else none
    else
      if x1 = 0 then none else
      (fX1_gainIn x1 x8 x2 (mset F s0 s1.toNat s2)).bind fun r7 =>
      if (0 : Int) ≤ x8 ∧ x8 < (alen (o + 2) : Int) then
        if (0 : Int) ≤ x8 ∧ x8 < (alen (o + 3) : Int) then
          if (0 : Int) ≤ x8 ∧ x8 < (alen (o + 4) : Int) then
            k82 o x1 x2 x4 x5 x6 x7 (xw (x8 + 1)) (mset (mset (mset (mset F s0 s1.toNat s2) (o + 2) x8.toNat r7) (o + 3) x8.toNat x7) (o + 4) x8.toNat x5)
          else none
        else none
      else none
  else none
noncomputable def fX6_follow_b82 (k13 : Nat → Nat → Int → Int → Int → Mem → Option Mem) : Nat → Nat → Nat → Int → Int → Int → Int → Int → Int → Mem → Option Mem
  | 0, _, _, _, _, _, _, _, _, _ => none
  | n + 1, o, x1, x2, x4, x5, x6, x7, x8, F =>
    if x6 ≤ x8 then
      k13 o x1 x5 x6 (xw (x4 + 1)) F
    else
      if x1 = 0 then none else
      if (F x1 4) ≤ x8 then
        k13 o x1 x5 x6 (xw (x4 + 1)) F
      else
        if x5 ≠ x2 then
          fX6_follow_b115 k13 (fX6_follow_b82 k13 n) o x1 x2 x4 x5 x6 x7 x8 (o + 1) x8 (-1) F
        else
          fX6_follow_b115 k13 (fX6_follow_b82 k13 n) o x1 x2 x4 x5 x6 x7 x8 (o + 1) x8 x2 F
noncomputable def fX6_follow_b63 (k13 : Nat → Nat → Int → Int → Int → Mem → Option Mem) (o : Nat) (x1 : Nat) (x2 : Int) (x3 : Int) (x4 : Int) (x5 : Int) (s0 : Int) (F : Mem) : Option Mem :=
  if x5 ≠ x2 then
    fX6_follow_b82 k13 FU o x1 x2 x4 x5 s0 s0 x3 F
  else
    fX6_follow_b82 k13 FU o x1 x2 x4 x5 s0 x3 x3 F
noncomputable def fX6_follow_b13 : Nat → Nat → Nat → Int → Int → Int → Mem → Option Mem
  | 0, _, _, _, _, _, _ => none
  | n + 1, o, x1, x2, x3, x4, F =>
    if x1 = 0 then none else
    if (F x1 4) ≤ x4 then
      some (mset F o 4 x2)
    else
      if x1 = 0 then none else
      if (F x1 4) ≤ x3 then
        some (mset F o 4 x2)
      else
        (fX6_nextFrom x1 x3 x2 F).bind fun r5 =>
        if r5 ≠ x2 then
          if x1 = 0 then none else
          (fX1_timeOf x1 x2 r5 F).bind fun r9 =>
          fX6_follow_b63 (fX6_follow_b13 n) o x1 x2 x3 x4 r5 (xw (x3 + (xmax 1 r9))) F
        else
          fX6_follow_b63 (fX6_follow_b13 n) o x1 x2 x3 x4 r5 (xw (x3 + 1)) F
noncomputable def fX6_follow (o : Nat) (x1 : Nat) (F : Mem) : Option Mem :=
  if x1 = 0 then none else
  if (F x1 0).toNat = 0 then none else
  fX6_follow_b13 FU o x1 (F ((F x1 0).toNat) 4) 0 0 F
theorem fX6_follow_b115_ok {Qr : Option PV → Mem → Prop}  (k13 : Nat → Nat → Int → Int → Int → Mem → Option Mem) (k82 : Nat → Nat → Int → Int → Int → Int → Int → Int → Mem → Option Mem) (hk13 : ∀ (o : Nat) (x1 : Nat) (x2 : Int) (x3 : Int) (x4 : Int) (F : Mem) (res : Mem) (ho : isK o 6) (hx1 : x1 = 0 ∨ isK x1 1), k13 o x1 x2 x3 x4 F = some res → Qr none res → PR cX6_follow (zX6_follow Qr) 13 [(0, vR o), (1, vR x1), (2, vI x2), (3, vI x3), (4, vI x4)] [] F) (hk82 : ∀ (o : Nat) (x1 : Nat) (x2 : Int) (x4 : Int) (x5 : Int) (x6 : Int) (x7 : Int) (x8 : Int) (F : Mem) (res : Mem) (ho : isK o 6) (hx1 : x1 = 0 ∨ isK x1 1), k82 o x1 x2 x4 x5 x6 x7 x8 F = some res → Qr none res → PR cX6_follow (zX6_follow Qr) 82 [(0, vR o), (1, vR x1), (2, vI x2), (4, vI x4), (5, vI x5), (6, vI x6), (7, vI x7), (8, vI x8)] [] F) : ∀ (o : Nat) (x1 : Nat) (x2 : Int) (x4 : Int) (x5 : Int) (x6 : Int) (x7 : Int) (x8 : Int) (s0 : Nat) (s1 : Int) (s2 : Int) (F : Mem) (res : Mem) (ho : isK o 6) (hx1 : x1 = 0 ∨ isK x1 1) (hs0 : isA s0 0), fX6_follow_b115 k13 k82 o x1 x2 x4 x5 x6 x7 x8 s0 s1 s2 F = some res → Qr none res → PR cX6_follow (zX6_follow Qr) 115 [(0, vR o), (1, vR x1), (2, vI x2), (4, vI x4), (5, vI x5), (6, vI x6), (7, vI x7), (8, vI x8)] [vI s2, vI s1, vR s0] F := by
  intro o x1 x2 x4 x5 x6 x7 x8 s0 s1 s2 F res ho hx1 hs0 h hq
  obtain ⟨hb1, h⟩ := gd h
  refine s_iastore dX6_follow_115 hs0 hb1.1 hb1.2 ?_
  refine s_aload_n (j := 0) dX6_follow_116 rfl rfl ?_
  refine s_getR dX6_follow_117 flX6_15 ho ?_
  refine s_iload (j := 7) dX6_follow_120 rfl ?_
  refine s_iload (j := 4) dX6_follow_122 rfl ?_
  refine s_iload_n (j := 2) dX6_follow_124 rfl rfl ?_
  refine s_icmp_ne (tgt := 138) dX6_follow_125 rfl (fun hc2 => ?_) (fun hc2 => ?_)
  · have h := ifp hc2 h
    refine s_iconst dX6_follow_138 (cin rfl) ?_
    obtain ⟨hb3, h⟩ := gd h
    refine s_iastore dX6_follow_139 (trX6_1 ho) hb3.1 hb3.2 ?_
    refine s_aload_n (j := 0) dX6_follow_140 rfl rfl ?_
    refine s_getR dX6_follow_141 flX6_18 ho ?_
    refine s_iload (j := 7) dX6_follow_144 rfl ?_
    refine s_iload (j := 6) dX6_follow_146 rfl ?_
    obtain ⟨hb4, h⟩ := gd h
    refine s_iastore dX6_follow_148 (trX6_2 ho) hb4.1 hb4.2 ?_
    refine s_aload_n (j := 0) dX6_follow_149 rfl rfl ?_
    refine s_getR dX6_follow_150 flX6_21 ho ?_
    refine s_iload (j := 7) dX6_follow_153 rfl ?_
    refine s_iload (j := 4) dX6_follow_155 rfl ?_
    obtain ⟨hb5, h⟩ := gd h
    refine s_iastore dX6_follow_157 (trX6_3 ho) hb5.1 hb5.2 ?_
    refine s_iinc (ls' := [(8, vI (xw (x8 + 1))), (0, vR o), (1, vR x1), (2, vI x2), (4, vI x4), (5, vI x5), (6, vI x6), (7, vI x7)]) (j := 7) dX6_follow_158 rfl (Nat.le_of_ble_eq_true rfl) rfl ?_
    refine s_goto (tgt := 82) dX6_follow_161 rfl ?_
    exact s_sub (ks := [1, 2, 3, 4, 5, 6, 7, 0]) rfl (hk82 o x1 x2 x4 x5 x6 x7 (xw (x8 + 1)) (mset (mset (mset (mset F s0 s1.toNat s2) (o + 2) x8.toNat 0) (o + 3) x8.toNat x7) (o + 4) x8.toNat x5) _ ho hx1 h hq)
  · have h := ifn hc2 h
    refine s_aload_n (j := 1) dX6_follow_128 rfl rfl ?_
    refine s_iload (j := 7) dX6_follow_129 rfl ?_
    refine s_iload_n (j := 2) dX6_follow_131 rfl rfl ?_
    obtain ⟨hn6, h⟩ := gdn h
    obtain ⟨r7, hv8, h⟩ := bnd h
    refine s_callV (As := [vI x8, vI x2]) (rest := [vI x8, vR (o + 2)]) (r := (some (vI r7))) (F' := mset F s0 s1.toNat s2) dX6_follow_132 (clX6_59 (Nat.le_of_ble_eq_true rfl) (Nat.le_of_ble_eq_true rfl)) (hx1.resolve_left hn6) rfl ⟨_, _, _, _, rfl, (hx1.resolve_left hn6), hv8, rfl, rfl⟩ rfl (Nat.le_of_ble_eq_true rfl) ?_
    refine s_goto (tgt := 139) dX6_follow_135 rfl ?_
    obtain ⟨hb9, h⟩ := gd h
    refine s_iastore dX6_follow_139 (trX6_1 ho) hb9.1 hb9.2 ?_
    refine s_aload_n (j := 0) dX6_follow_140 rfl rfl ?_
    refine s_getR dX6_follow_141 flX6_18 ho ?_
    refine s_iload (j := 7) dX6_follow_144 rfl ?_
    refine s_iload (j := 6) dX6_follow_146 rfl ?_
    obtain ⟨hb10, h⟩ := gd h
    refine s_iastore dX6_follow_148 (trX6_2 ho) hb10.1 hb10.2 ?_
    refine s_aload_n (j := 0) dX6_follow_149 rfl rfl ?_
    refine s_getR dX6_follow_150 flX6_21 ho ?_
    refine s_iload (j := 7) dX6_follow_153 rfl ?_
    refine s_iload (j := 4) dX6_follow_155 rfl ?_
    obtain ⟨hb11, h⟩ := gd h
    refine s_iastore dX6_follow_157 (trX6_3 ho) hb11.1 hb11.2 ?_
    refine s_iinc (ls' := [(8, vI (xw (x8 + 1))), (0, vR o), (1, vR x1), (2, vI x2), (4, vI x4), (5, vI x5), (6, vI x6), (7, vI x7)]) (j := 7) dX6_follow_158 rfl (Nat.le_of_ble_eq_true rfl) rfl ?_
    refine s_goto (tgt := 82) dX6_follow_161 rfl ?_
    exact s_sub (ks := [1, 2, 3, 4, 5, 6, 7, 0]) rfl (hk82 o x1 x2 x4 x5 x6 x7 (xw (x8 + 1)) (mset (mset (mset (mset F s0 s1.toNat s2) (o + 2) x8.toNat r7) (o + 3) x8.toNat x7) (o + 4) x8.toNat x5) _ ho hx1 h hq)
theorem fX6_follow_b82_ok {Qr : Option PV → Mem → Prop}  (k13 : Nat → Nat → Int → Int → Int → Mem → Option Mem) (hk13 : ∀ (o : Nat) (x1 : Nat) (x2 : Int) (x3 : Int) (x4 : Int) (F : Mem) (res : Mem) (ho : isK o 6) (hx1 : x1 = 0 ∨ isK x1 1), k13 o x1 x2 x3 x4 F = some res → Qr none res → PR cX6_follow (zX6_follow Qr) 13 [(0, vR o), (1, vR x1), (2, vI x2), (3, vI x3), (4, vI x4)] [] F) : ∀ (n : Nat) (o : Nat) (x1 : Nat) (x2 : Int) (x4 : Int) (x5 : Int) (x6 : Int) (x7 : Int) (x8 : Int) (F : Mem) (res : Mem) (ho : isK o 6) (hx1 : x1 = 0 ∨ isK x1 1), fX6_follow_b82 k13 n o x1 x2 x4 x5 x6 x7 x8 F = some res → Qr none res → PR cX6_follow (zX6_follow Qr) 82 [(0, vR o), (1, vR x1), (2, vI x2), (4, vI x4), (5, vI x5), (6, vI x6), (7, vI x7), (8, vI x8)] [] F := by
  intro n
  induction n with
  | zero => intro o x1 x2 x4 x5 x6 x7 x8 F res ho hx1 h hq; exact nomatch (show (none : Option _) = some _ from h)
  | succ n ih =>
    intro o x1 x2 x4 x5 x6 x7 x8 F res ho hx1 h hq
    refine s_iload (j := 7) dX6_follow_82 rfl ?_
    refine s_iload (j := 5) dX6_follow_84 rfl ?_
    refine s_icmp_ge (tgt := 164) dX6_follow_86 rfl (fun hc1 => ?_) (fun hc1 => ?_)
    · have h := ifp hc1 h
      refine s_iload (j := 5) dX6_follow_164 rfl ?_
      refine s_istore_n (ls' := [(3, vI x6), (0, vR o), (1, vR x1), (2, vI x2), (4, vI x4), (5, vI x5), (6, vI x6), (7, vI x7), (8, vI x8)]) dX6_follow_166 rfl (Nat.le_of_ble_eq_true rfl) rfl ?_
      refine s_iload (j := 5) dX6_follow_167 rfl ?_
      refine s_istore_n dX6_follow_169 rfl (Nat.le_of_ble_eq_true rfl) rfl ?_
      refine s_iinc (ls' := [(4, vI (xw (x4 + 1))), (2, vI x5), (3, vI x6), (0, vR o), (1, vR x1), (5, vI x5), (6, vI x6), (7, vI x7), (8, vI x8)]) (j := 4) dX6_follow_170 rfl (Nat.le_of_ble_eq_true rfl) rfl ?_
      refine s_goto (tgt := 13) dX6_follow_173 rfl ?_
      exact s_sub (ks := [3, 4, 1, 2, 0]) rfl (hk13 o x1 x5 x6 (xw (x4 + 1)) F _ ho hx1 h hq)
    · have h := ifn hc1 h
      refine s_iload (j := 7) dX6_follow_89 rfl ?_
      refine s_aload_n (j := 1) dX6_follow_91 rfl rfl ?_
      obtain ⟨hn2, h⟩ := gdn h
      refine s_getI dX6_follow_92 flX6_43 (hx1.resolve_left hn2) ?_
      refine s_icmp_ge (tgt := 164) dX6_follow_95 rfl (fun hc3 => ?_) (fun hc3 => ?_)
      · have h := ifp hc3 h
        refine s_iload (j := 5) dX6_follow_164 rfl ?_
        refine s_istore_n (ls' := [(3, vI x6), (0, vR o), (1, vR x1), (2, vI x2), (4, vI x4), (5, vI x5), (6, vI x6), (7, vI x7), (8, vI x8)]) dX6_follow_166 rfl (Nat.le_of_ble_eq_true rfl) rfl ?_
        refine s_iload (j := 5) dX6_follow_167 rfl ?_
        refine s_istore_n dX6_follow_169 rfl (Nat.le_of_ble_eq_true rfl) rfl ?_
        refine s_iinc (ls' := [(4, vI (xw (x4 + 1))), (2, vI x5), (3, vI x6), (0, vR o), (1, vR x1), (5, vI x5), (6, vI x6), (7, vI x7), (8, vI x8)]) (j := 4) dX6_follow_170 rfl (Nat.le_of_ble_eq_true rfl) rfl ?_
        refine s_goto (tgt := 13) dX6_follow_173 rfl ?_
        exact s_sub (ks := [3, 4, 1, 2, 0]) rfl (hk13 o x1 x5 x6 (xw (x4 + 1)) F _ ho hx1 h hq)
      · have h := ifn hc3 h
        refine s_aload_n (j := 0) dX6_follow_98 rfl rfl ?_
        refine s_getR dX6_follow_99 flX6_9 ho ?_
        refine s_iload (j := 7) dX6_follow_102 rfl ?_
        refine s_iload (j := 4) dX6_follow_104 rfl ?_
        refine s_iload_n (j := 2) dX6_follow_106 rfl rfl ?_
        refine s_icmp_ne (tgt := 114) dX6_follow_107 rfl (fun hc4 => ?_) (fun hc4 => ?_)
        · have h := ifp hc4 h
          refine s_iconst dX6_follow_114 (cin rfl) ?_
          exact s_sub (ks := [0, 1, 2, 3, 4, 5, 6, 7]) rfl (fX6_follow_b115_ok k13 (fX6_follow_b82 k13 n) hk13 ih o x1 x2 x4 x5 x6 x7 x8 (o + 1) x8 (-1) F _ ho hx1 (trX6_0 ho) h hq)
        · have h := ifn hc4 h
          refine s_iload_n (j := 2) dX6_follow_110 rfl rfl ?_
          refine s_goto (tgt := 115) dX6_follow_111 rfl ?_
          exact s_sub (ks := [0, 1, 2, 3, 4, 5, 6, 7]) rfl (fX6_follow_b115_ok k13 (fX6_follow_b82 k13 n) hk13 ih o x1 x2 x4 x5 x6 x7 x8 (o + 1) x8 x2 F _ ho hx1 (trX6_0 ho) h hq)
theorem fX6_follow_b63_ok {Qr : Option PV → Mem → Prop}  (k13 : Nat → Nat → Int → Int → Int → Mem → Option Mem) (hk13 : ∀ (o : Nat) (x1 : Nat) (x2 : Int) (x3 : Int) (x4 : Int) (F : Mem) (res : Mem) (ho : isK o 6) (hx1 : x1 = 0 ∨ isK x1 1), k13 o x1 x2 x3 x4 F = some res → Qr none res → PR cX6_follow (zX6_follow Qr) 13 [(0, vR o), (1, vR x1), (2, vI x2), (3, vI x3), (4, vI x4)] [] F) : ∀ (o : Nat) (x1 : Nat) (x2 : Int) (x3 : Int) (x4 : Int) (x5 : Int) (s0 : Int) (F : Mem) (res : Mem) (ho : isK o 6) (hx1 : x1 = 0 ∨ isK x1 1), fX6_follow_b63 k13 o x1 x2 x3 x4 x5 s0 F = some res → Qr none res → PR cX6_follow (zX6_follow Qr) 63 [(0, vR o), (1, vR x1), (2, vI x2), (3, vI x3), (4, vI x4), (5, vI x5)] [vI s0] F := by
  intro o x1 x2 x3 x4 x5 s0 F res ho hx1 h hq
  refine s_istore (ls' := [(6, vI s0), (0, vR o), (1, vR x1), (2, vI x2), (3, vI x3), (4, vI x4), (5, vI x5)]) dX6_follow_63 (Nat.le_of_ble_eq_true rfl) rfl ?_
  refine s_iload (j := 6) dX6_follow_65 rfl ?_
  refine s_iload_n (j := 3) dX6_follow_67 rfl rfl ?_
  refine s_icmp_ne (tgt := 75) dX6_follow_68 rfl (fun hc1 => ?_) (fun hc1 => ?_)
  · have h := ifp hc1 h
    refine s_iload (j := 0) dX6_follow_75 rfl ?_
    refine s_istore (ls' := [(7, vI s0), (6, vI s0), (0, vR o), (1, vR x1), (2, vI x2), (3, vI x3), (4, vI x4), (5, vI x5)]) dX6_follow_77 (Nat.le_of_ble_eq_true rfl) rfl ?_
    refine s_iload_n (j := 5) dX6_follow_79 rfl rfl ?_
    refine s_istore dX6_follow_80 (Nat.le_of_ble_eq_true rfl) rfl ?_
    exact s_sub (ks := [3, 4, 5, 7, 8, 2, 1, 0]) rfl (fX6_follow_b82_ok k13 hk13 FU o x1 x2 x4 x5 s0 s0 x3 F _ ho hx1 h hq)
  · have h := ifn hc1 h
    refine s_iload_n (j := 4) dX6_follow_71 rfl rfl ?_
    refine s_goto (tgt := 77) dX6_follow_72 rfl ?_
    refine s_istore (ls' := [(7, vI x3), (6, vI s0), (0, vR o), (1, vR x1), (2, vI x2), (3, vI x3), (4, vI x4), (5, vI x5)]) dX6_follow_77 (Nat.le_of_ble_eq_true rfl) rfl ?_
    refine s_iload_n (j := 5) dX6_follow_79 rfl rfl ?_
    refine s_istore dX6_follow_80 (Nat.le_of_ble_eq_true rfl) rfl ?_
    exact s_sub (ks := [3, 4, 5, 7, 8, 2, 1, 0]) rfl (fX6_follow_b82_ok k13 hk13 FU o x1 x2 x4 x5 s0 x3 x3 F _ ho hx1 h hq)
theorem fX6_follow_b13_ok {Qr : Option PV → Mem → Prop}  : ∀ (n : Nat) (o : Nat) (x1 : Nat) (x2 : Int) (x3 : Int) (x4 : Int) (F : Mem) (res : Mem) (ho : isK o 6) (hx1 : x1 = 0 ∨ isK x1 1), fX6_follow_b13 n o x1 x2 x3 x4 F = some res → Qr none res → PR cX6_follow (zX6_follow Qr) 13 [(0, vR o), (1, vR x1), (2, vI x2), (3, vI x3), (4, vI x4)] [] F := by
  intro n
  induction n with
  | zero => intro o x1 x2 x3 x4 F res ho hx1 h hq; exact nomatch (show (none : Option _) = some _ from h)
  | succ n ih =>
    intro o x1 x2 x3 x4 F res ho hx1 h hq
    refine s_iload (j := 4) dX6_follow_13 rfl ?_
    refine s_aload_n (j := 1) dX6_follow_15 rfl rfl ?_
    obtain ⟨hn1, h⟩ := gdn h
    refine s_getI dX6_follow_16 flX6_43 (hx1.resolve_left hn1) ?_
    refine s_icmp_ge (tgt := 176) dX6_follow_19 rfl (fun hc2 => ?_) (fun hc2 => ?_)
    · have h := ifp hc2 h
      refine s_aload_n (j := 0) dX6_follow_176 rfl rfl ?_
      refine s_iload_n (j := 2) dX6_follow_177 rfl rfl ?_
      refine s_putI dX6_follow_178 flX6_24 fpX6_4 ho ?_
      have h := Option.some.inj h
      subst h
      exact s_return dX6_follow_181 rfl hq
    · have h := ifn hc2 h
      refine s_iload_n (j := 3) dX6_follow_22 rfl rfl ?_
      refine s_aload_n (j := 1) dX6_follow_23 rfl rfl ?_
      obtain ⟨hn3, h⟩ := gdn h
      refine s_getI dX6_follow_24 flX6_43 (hx1.resolve_left hn3) ?_
      refine s_icmp_ge (tgt := 176) dX6_follow_27 rfl (fun hc4 => ?_) (fun hc4 => ?_)
      · have h := ifp hc4 h
        refine s_aload_n (j := 0) dX6_follow_176 rfl rfl ?_
        refine s_iload_n (j := 2) dX6_follow_177 rfl rfl ?_
        refine s_putI dX6_follow_178 flX6_24 fpX6_4 ho ?_
        have h := Option.some.inj h
        subst h
        exact s_return dX6_follow_181 rfl hq
      · have h := ifn hc4 h
        refine s_aload_n (j := 1) dX6_follow_30 rfl rfl ?_
        refine s_iload_n (j := 3) dX6_follow_31 rfl rfl ?_
        refine s_iload_n (j := 2) dX6_follow_32 rfl rfl ?_
        obtain ⟨r5, hv6, h⟩ := bnd h
        refine s_callS (As := [vR x1, vI x3, vI x2]) (rest := []) (r := (some (vI r5))) (F' := F) dX6_follow_33 (clX6_46 (Nat.le_of_ble_eq_true rfl) (Nat.le_of_ble_eq_true rfl)) rfl ⟨_, _, _, _, rfl, hx1, hv6, rfl, rfl⟩ rfl (Nat.le_of_ble_eq_true rfl) ?_
        refine s_istore (ls' := [(5, vI r5), (0, vR o), (1, vR x1), (2, vI x2), (3, vI x3), (4, vI x4)]) dX6_follow_36 (Nat.le_of_ble_eq_true rfl) rfl ?_
        refine s_iload (j := 0) dX6_follow_38 rfl ?_
        refine s_iload_n (j := 3) dX6_follow_40 rfl rfl ?_
        refine s_icmp_ne (tgt := 50) dX6_follow_41 rfl (fun hc7 => ?_) (fun hc7 => ?_)
        · have h := ifp hc7 h
          refine s_iload_n (j := 4) dX6_follow_50 rfl rfl ?_
          refine s_iconst dX6_follow_51 (cin rfl) ?_
          refine s_aload_n (j := 2) dX6_follow_52 rfl rfl ?_
          refine s_iload_n (j := 3) dX6_follow_53 rfl rfl ?_
          refine s_iload (j := 0) dX6_follow_54 rfl ?_
          obtain ⟨hn8, h⟩ := gdn h
          obtain ⟨r9, hv10, h⟩ := bnd h
          refine s_callV (As := [vI x2, vI r5]) (rest := [vI 1, vI x3]) (r := (some (vI r9))) (F' := F) dX6_follow_56 (clX6_50 (Nat.le_of_ble_eq_true rfl) (Nat.le_of_ble_eq_true rfl)) (hx1.resolve_left hn8) rfl ⟨_, _, _, _, rfl, (hx1.resolve_left hn8), hv10, rfl, rfl⟩ rfl (Nat.le_of_ble_eq_true rfl) ?_
          refine s_mmax dX6_follow_59 mtX6_54 (Nat.le_of_ble_eq_true rfl) ?_
          refine s_iadd dX6_follow_62 ?_
          exact s_sub (ks := [1, 2, 3, 4, 5, 0]) rfl (fX6_follow_b63_ok (fX6_follow_b13 n) ih o x1 x2 x3 x4 r5 (xw (x3 + (xmax 1 r9))) F _ ho hx1 h hq)
        · have h := ifn hc7 h
          refine s_iload_n (j := 4) dX6_follow_44 rfl rfl ?_
          refine s_iconst dX6_follow_45 (cin rfl) ?_
          refine s_iadd dX6_follow_46 ?_
          refine s_goto (tgt := 63) dX6_follow_47 rfl ?_
          exact s_sub (ks := [1, 2, 3, 4, 5, 0]) rfl (fX6_follow_b63_ok (fX6_follow_b13 n) ih o x1 x2 x3 x4 r5 (xw (x3 + 1)) F _ ho hx1 h hq)
theorem fX6_follow_ok {Qr : Option PV → Mem → Prop} : ∀ (o : Nat) (x1 : Nat) (F : Mem) (res : Mem) (ho : isK o 6) (hx1 : x1 = 0 ∨ isK x1 1), fX6_follow o x1 F = some res → Qr none res → PR cX6_follow (zX6_follow Qr) 0 [(0, vR o), (1, vR x1)] [] F := by
  intro o x1 F res ho hx1 h hq
  refine s_aload_n (j := 1) dX6_follow_0 rfl rfl ?_
  obtain ⟨hn1, h⟩ := gdn h
  refine s_getM dX6_follow_1 flX6_32 (hx1.resolve_left hn1) (fun hm2 => ?_)
  have hm2 : _ = 0 ∨ isK ((F x1 0).toNat) 7 := hm2
  obtain ⟨hn3, h⟩ := gdn h
  refine s_getI dX6_follow_4 flX6_38 (hm2.resolve_left hn3) ?_
  refine s_istore_n (ls' := [(2, vI (F ((F x1 0).toNat) 4)), (0, vR o), (1, vR x1)]) dX6_follow_7 rfl (Nat.le_of_ble_eq_true rfl) rfl ?_
  refine s_iconst dX6_follow_8 (cin rfl) ?_
  refine s_istore_n dX6_follow_9 rfl (Nat.le_of_ble_eq_true rfl) rfl ?_
  refine s_iconst dX6_follow_10 (cin rfl) ?_
  refine s_istore (ls' := [(4, vI 0), (3, vI 0), (2, vI (F ((F x1 0).toNat) 4)), (0, vR o), (1, vR x1)]) dX6_follow_11 (Nat.le_of_ble_eq_true rfl) rfl ?_
  exact s_sub (ks := [3, 4, 2, 1, 0]) rfl (fX6_follow_b13_ok FU o x1 (F ((F x1 0).toNat) 4) 0 0 F _ ho hx1 h hq)
def gX6_follow : XG := fun As F r F' => ∃ o : Nat, ∃ x1 : Nat, ∃ res : Mem, As = [vR o, vR x1] ∧ isK o 6 ∧ (x1 = 0 ∨ isK x1 1) ∧ fX6_follow o x1 F = some res ∧ r = none ∧ F' = res
theorem ctX6_follow : xCT yX6_follow cX6_follow 9 (none) 3 69 gX6_follow := xmet (by decide +kernel) (fun As F r F' hg => by obtain ⟨o, x1, res, rfl, ho, hx1, h, rfl, rfl⟩ := hg; exact Nat.le_of_ble_eq_true rfl) (fun As F r F' hg => by obtain ⟨o, x1, res, rfl, ho, hx1, h, rfl, rfl⟩ := hg; exact fX6_follow_ok o x1 _ _ ho hx1 h ⟨rfl, rfl⟩)
theorem mcX6_follow : Cond.code yX6_follow cX6_follow 9 (none) ∈ xw_T ∧ Cond.initialized yX6_follow.cls ∈ xw_T ∧ Cond.instanceMethod yX6_follow ∈ xw_T ∧ Cond.selects yX6_follow.cls yX6_follow yX6_follow ∈ xw_T := ⟨(xinT 1081 (by decide +kernel) (by decide +kernel)), (xinT 125 (by decide +kernel) (by decide +kernel)), (xinT 1079 (by decide +kernel) (by decide +kernel)), (xinT 1080 (by decide +kernel) (by decide +kernel))⟩
theorem clX9_260 {fr lo : Nat} (h1 : 3 + 1 ≤ fr) (h2 : 8 + (9 + 11) + 69 ≤ lo) : xCall RX9 fr lo 0 260 6 1 gX6_follow := ⟨_, _, _, _, _, _, ctX6_follow, h1, h2, mcX6_follow.1, (xinT 1078 (by decide +kernel) (by decide +kernel)), mcX6_follow.2.1, ⟨by decide +kernel, by decide +kernel, by decide +kernel⟩, by rw [if_pos rfl]; exact ⟨mcX6_follow.2.2.1, mcX6_follow.2.2.2, _, _, rfl⟩⟩
theorem dX6_slotsAt_0 : decode cX6_slotsAt 0 = .ok (.iconst 0, 1) := by decide +kernel
theorem dX6_slotsAt_1 : decode cX6_slotsAt 1 = .ok (.istore_n 3, 1) := by decide +kernel
theorem dX6_slotsAt_2 : decode cX6_slotsAt 2 = .ok (.iconst 0, 1) := by decide +kernel
theorem dX6_slotsAt_3 : decode cX6_slotsAt 3 = .ok (.istore 4, 2) := by decide +kernel
theorem dX6_slotsAt_5 : decode cX6_slotsAt 5 = .ok (.iload 4, 2) := by decide +kernel
theorem dX6_slotsAt_7 : decode cX6_slotsAt 7 = .ok (.iload_n 2, 1) := by decide +kernel
theorem dX6_slotsAt_8 : decode cX6_slotsAt 8 = .ok (.if_icmp .ge 28, 3) := by decide +kernel
theorem dX6_slotsAt_11 : decode cX6_slotsAt 11 = .ok (.iload_n 3, 1) := by decide +kernel
theorem dX6_slotsAt_12 : decode cX6_slotsAt 12 = .ok (.aload_n 0, 1) := by decide +kernel
theorem dX6_slotsAt_13 : decode cX6_slotsAt 13 = .ok (.getfield 9, 3) := by decide +kernel
theorem dX6_slotsAt_16 : decode cX6_slotsAt 16 = .ok (.iload 4, 2) := by decide +kernel
theorem dX6_slotsAt_18 : decode cX6_slotsAt 18 = .ok (.iaload, 1) := by decide +kernel
theorem dX6_slotsAt_19 : decode cX6_slotsAt 19 = .ok (.iload_n 1, 1) := by decide +kernel
theorem dX6_slotsAt_20 : decode cX6_slotsAt 20 = .ok (.if_icmp .ne 7, 3) := by decide +kernel
theorem dX6_slotsAt_23 : decode cX6_slotsAt 23 = .ok (.iconst 1, 1) := by decide +kernel
theorem dX6_slotsAt_24 : decode cX6_slotsAt 24 = .ok (.goto 4, 3) := by decide +kernel
theorem dX6_slotsAt_27 : decode cX6_slotsAt 27 = .ok (.iconst 0, 1) := by decide +kernel
theorem dX6_slotsAt_28 : decode cX6_slotsAt 28 = .ok (.iadd, 1) := by decide +kernel
theorem dX6_slotsAt_29 : decode cX6_slotsAt 29 = .ok (.istore_n 3, 1) := by decide +kernel
theorem dX6_slotsAt_30 : decode cX6_slotsAt 30 = .ok (.iinc 4 1, 3) := by decide +kernel
theorem dX6_slotsAt_33 : decode cX6_slotsAt 33 = .ok (.goto (-28), 3) := by decide +kernel
theorem dX6_slotsAt_36 : decode cX6_slotsAt 36 = .ok (.iload_n 3, 1) := by decide +kernel
theorem dX6_slotsAt_37 : decode cX6_slotsAt 37 = .ok (.ireturn, 1) := by decide +kernel
def zX6_slotsAt (Qr : Option PV → Mem → Prop) : XZ := (RX6, 0, 0, 5, some FieldType.int, Qr)
noncomputable def fX6_slotsAt_b5 (F : Mem) : Nat → Nat → Int → Int → Int → Int → Option Int
  | 0, _, _, _, _, _ => none
  | n + 1, o, x1, x2, x3, x4 =>
    if x2 ≤ x4 then
      some x3
    else
      if (0 : Int) ≤ x4 ∧ x4 < (alen (o + 1) : Int) then
        if (F (o + 1) x4.toNat) ≠ x1 then
          fX6_slotsAt_b5 F n o x1 x2 (xw (x3 + 0)) (xw (x4 + 1))
        else
          fX6_slotsAt_b5 F n o x1 x2 (xw (x3 + 1)) (xw (x4 + 1))
      else none
noncomputable def fX6_slotsAt (o : Nat) (x1 : Int) (x2 : Int) (F : Mem) : Option Int :=
  fX6_slotsAt_b5 F FU o x1 x2 0 0
theorem fX6_slotsAt_b5_ok {Qr : Option PV → Mem → Prop}  (F : Mem) : ∀ (n : Nat) (o : Nat) (x1 : Int) (x2 : Int) (x3 : Int) (x4 : Int) (res : Int) (ho : isK o 6), fX6_slotsAt_b5 F n o x1 x2 x3 x4 = some res → Qr (some (vI res)) F → PR cX6_slotsAt (zX6_slotsAt Qr) 5 [(0, vR o), (1, vI x1), (2, vI x2), (3, vI x3), (4, vI x4)] [] F := by
  intro n
  induction n with
  | zero => intro o x1 x2 x3 x4 res ho h hq; exact nomatch (show (none : Option _) = some _ from h)
  | succ n ih =>
    intro o x1 x2 x3 x4 res ho h hq
    refine s_iload (j := 4) dX6_slotsAt_5 rfl ?_
    refine s_iload_n (j := 2) dX6_slotsAt_7 rfl rfl ?_
    refine s_icmp_ge (tgt := 36) dX6_slotsAt_8 rfl (fun hc1 => ?_) (fun hc1 => ?_)
    · have h := ifp hc1 h
      refine s_iload_n (j := 3) dX6_slotsAt_36 rfl rfl ?_
      have h := Option.some.inj h
      subst h
      exact s_ireturn dX6_slotsAt_37 rfl hq
    · have h := ifn hc1 h
      refine s_iload_n (j := 3) dX6_slotsAt_11 rfl rfl ?_
      refine s_aload_n (j := 0) dX6_slotsAt_12 rfl rfl ?_
      refine s_getR dX6_slotsAt_13 flX6_9 ho ?_
      refine s_iload (j := 4) dX6_slotsAt_16 rfl ?_
      obtain ⟨hb2, h⟩ := gd h
      refine s_iaload dX6_slotsAt_18 (trX6_0 ho) hb2.1 hb2.2 ?_
      refine s_iload_n (j := 1) dX6_slotsAt_19 rfl rfl ?_
      refine s_icmp_ne (tgt := 27) dX6_slotsAt_20 rfl (fun hc3 => ?_) (fun hc3 => ?_)
      · have h := ifp hc3 h
        refine s_iconst dX6_slotsAt_27 (cin rfl) ?_
        refine s_iadd dX6_slotsAt_28 ?_
        refine s_istore_n (ls' := [(3, vI (xw (x3 + 0))), (0, vR o), (1, vI x1), (2, vI x2), (4, vI x4)]) dX6_slotsAt_29 rfl (Nat.le_of_ble_eq_true rfl) rfl ?_
        refine s_iinc (j := 4) dX6_slotsAt_30 rfl (Nat.le_of_ble_eq_true rfl) rfl ?_
        refine s_goto (tgt := 5) dX6_slotsAt_33 rfl ?_
        exact s_sub (ks := [2, 3, 4, 1, 0]) rfl (ih o x1 x2 (xw (x3 + 0)) (xw (x4 + 1)) _ ho h hq)
      · have h := ifn hc3 h
        refine s_iconst dX6_slotsAt_23 (cin rfl) ?_
        refine s_goto (tgt := 28) dX6_slotsAt_24 rfl ?_
        refine s_iadd dX6_slotsAt_28 ?_
        refine s_istore_n (ls' := [(3, vI (xw (x3 + 1))), (0, vR o), (1, vI x1), (2, vI x2), (4, vI x4)]) dX6_slotsAt_29 rfl (Nat.le_of_ble_eq_true rfl) rfl ?_
        refine s_iinc (j := 4) dX6_slotsAt_30 rfl (Nat.le_of_ble_eq_true rfl) rfl ?_
        refine s_goto (tgt := 5) dX6_slotsAt_33 rfl ?_
        exact s_sub (ks := [2, 3, 4, 1, 0]) rfl (ih o x1 x2 (xw (x3 + 1)) (xw (x4 + 1)) _ ho h hq)
theorem fX6_slotsAt_ok {Qr : Option PV → Mem → Prop} : ∀ (o : Nat) (x1 : Int) (x2 : Int) (F : Mem) (res : Int) (ho : isK o 6), fX6_slotsAt o x1 x2 F = some res → Qr (some (vI res)) F → PR cX6_slotsAt (zX6_slotsAt Qr) 0 [(0, vR o), (1, vI x1), (2, vI x2)] [] F := by
  intro o x1 x2 F res ho h hq
  refine s_iconst dX6_slotsAt_0 (cin rfl) ?_
  refine s_istore_n (ls' := [(3, vI 0), (0, vR o), (1, vI x1), (2, vI x2)]) dX6_slotsAt_1 rfl (Nat.le_of_ble_eq_true rfl) rfl ?_
  refine s_iconst dX6_slotsAt_2 (cin rfl) ?_
  refine s_istore dX6_slotsAt_3 (Nat.le_of_ble_eq_true rfl) rfl ?_
  exact s_sub (ks := [2, 3, 4, 1, 0]) rfl (fX6_slotsAt_b5_ok F FU o x1 x2 0 0 _ ho h hq)
def gX6_slotsAt : XG := fun As F r F' => ∃ o : Nat, ∃ x1 : Int, ∃ x2 : Int, ∃ res : Int, As = [vR o, vI x1, vI x2] ∧ isK o 6 ∧ fX6_slotsAt o x1 x2 F = some res ∧ r = some (vI res) ∧ F' = F
theorem ctX6_slotsAt : xCT yX6_slotsAt cX6_slotsAt 5 (some FieldType.int) 0 0 gX6_slotsAt := xmet (by decide +kernel) (fun As F r F' hg => by obtain ⟨o, x1, x2, res, rfl, ho, h, rfl, rfl⟩ := hg; exact Nat.le_of_ble_eq_true rfl) (fun As F r F' hg => by obtain ⟨o, x1, x2, res, rfl, ho, h, rfl, rfl⟩ := hg; exact fX6_slotsAt_ok o x1 x2 _ _ ho h ⟨rfl, rfl⟩)
theorem mcX6_slotsAt : Cond.code yX6_slotsAt cX6_slotsAt 5 (some FieldType.int) ∈ xw_T ∧ Cond.initialized yX6_slotsAt.cls ∈ xw_T ∧ Cond.instanceMethod yX6_slotsAt ∈ xw_T ∧ Cond.selects yX6_slotsAt.cls yX6_slotsAt yX6_slotsAt ∈ xw_T := ⟨(xinT 1218 (by decide +kernel) (by decide +kernel)), (xinT 125 (by decide +kernel) (by decide +kernel)), (xinT 1216 (by decide +kernel) (by decide +kernel)), (xinT 1217 (by decide +kernel) (by decide +kernel))⟩
theorem clX9_331 {fr lo : Nat} (h1 : 0 + 1 ≤ fr) (h2 : 8 + (5 + 11) + 0 ≤ lo) : xCall RX9 fr lo 0 331 6 2 gX6_slotsAt := ⟨_, _, _, _, _, _, ctX6_slotsAt, h1, h2, mcX6_slotsAt.1, (xinT 1215 (by decide +kernel) (by decide +kernel)), mcX6_slotsAt.2.1, ⟨by decide +kernel, by decide +kernel, by decide +kernel⟩, by rw [if_pos rfl]; exact ⟨mcX6_slotsAt.2.2.1, mcX6_slotsAt.2.2.2, _, _, rfl⟩⟩
theorem dX6_idle_0 : decode cX6_idle 0 = .ok (.iconst 0, 1) := by decide +kernel
theorem dX6_idle_1 : decode cX6_idle 1 = .ok (.istore_n 2, 1) := by decide +kernel
theorem dX6_idle_2 : decode cX6_idle 2 = .ok (.iconst 0, 1) := by decide +kernel
theorem dX6_idle_3 : decode cX6_idle 3 = .ok (.istore_n 3, 1) := by decide +kernel
theorem dX6_idle_4 : decode cX6_idle 4 = .ok (.iload_n 3, 1) := by decide +kernel
theorem dX6_idle_5 : decode cX6_idle 5 = .ok (.iload_n 1, 1) := by decide +kernel
theorem dX6_idle_6 : decode cX6_idle 6 = .ok (.if_icmp .ge 36, 3) := by decide +kernel
theorem dX6_idle_9 : decode cX6_idle 9 = .ok (.iload_n 2, 1) := by decide +kernel
theorem dX6_idle_10 : decode cX6_idle 10 = .ok (.aload_n 0, 1) := by decide +kernel
theorem dX6_idle_11 : decode cX6_idle 11 = .ok (.getfield 9, 3) := by decide +kernel
theorem dX6_idle_14 : decode cX6_idle 14 = .ok (.iload_n 3, 1) := by decide +kernel
theorem dX6_idle_15 : decode cX6_idle 15 = .ok (.iaload, 1) := by decide +kernel
theorem dX6_idle_16 : decode cX6_idle 16 = .ok (.iconst (-1), 1) := by decide +kernel
theorem dX6_idle_17 : decode cX6_idle 17 = .ok (.if_icmp .eq 16, 3) := by decide +kernel
theorem dX6_idle_20 : decode cX6_idle 20 = .ok (.aload_n 0, 1) := by decide +kernel
theorem dX6_idle_21 : decode cX6_idle 21 = .ok (.getfield 15, 3) := by decide +kernel
theorem dX6_idle_24 : decode cX6_idle 24 = .ok (.iload_n 3, 1) := by decide +kernel
theorem dX6_idle_25 : decode cX6_idle 25 = .ok (.iaload, 1) := by decide +kernel
theorem dX6_idle_26 : decode cX6_idle 26 = .ok (.ifCond .ne 7, 3) := by decide +kernel
theorem dX6_idle_29 : decode cX6_idle 29 = .ok (.iconst 1, 1) := by decide +kernel
theorem dX6_idle_30 : decode cX6_idle 30 = .ok (.goto 4, 3) := by decide +kernel
theorem dX6_idle_33 : decode cX6_idle 33 = .ok (.iconst 0, 1) := by decide +kernel
theorem dX6_idle_34 : decode cX6_idle 34 = .ok (.iadd, 1) := by decide +kernel
theorem dX6_idle_35 : decode cX6_idle 35 = .ok (.istore_n 2, 1) := by decide +kernel
theorem dX6_idle_36 : decode cX6_idle 36 = .ok (.iinc 3 1, 3) := by decide +kernel
theorem dX6_idle_39 : decode cX6_idle 39 = .ok (.goto (-35), 3) := by decide +kernel
theorem dX6_idle_42 : decode cX6_idle 42 = .ok (.iload_n 2, 1) := by decide +kernel
theorem dX6_idle_43 : decode cX6_idle 43 = .ok (.ireturn, 1) := by decide +kernel
def zX6_idle (Qr : Option PV → Mem → Prop) : XZ := (RX6, 0, 0, 4, some FieldType.int, Qr)
noncomputable def fX6_idle_b4 (F : Mem) : Nat → Nat → Int → Int → Int → Option Int
  | 0, _, _, _, _ => none
  | n + 1, o, x1, x2, x3 =>
    if x1 ≤ x3 then
      some x2
    else
      if (0 : Int) ≤ x3 ∧ x3 < (alen (o + 1) : Int) then
        if (F (o + 1) x3.toNat) = (-1) then
          fX6_idle_b4 F n o x1 (xw (x2 + 0)) (xw (x3 + 1))
        else
          if (0 : Int) ≤ x3 ∧ x3 < (alen (o + 2) : Int) then
            if (F (o + 2) x3.toNat) ≠ 0 then
              fX6_idle_b4 F n o x1 (xw (x2 + 0)) (xw (x3 + 1))
            else
              fX6_idle_b4 F n o x1 (xw (x2 + 1)) (xw (x3 + 1))
          else none
      else none
noncomputable def fX6_idle (o : Nat) (x1 : Int) (F : Mem) : Option Int :=
  fX6_idle_b4 F FU o x1 0 0
theorem fX6_idle_b4_ok {Qr : Option PV → Mem → Prop}  (F : Mem) : ∀ (n : Nat) (o : Nat) (x1 : Int) (x2 : Int) (x3 : Int) (res : Int) (ho : isK o 6), fX6_idle_b4 F n o x1 x2 x3 = some res → Qr (some (vI res)) F → PR cX6_idle (zX6_idle Qr) 4 [(0, vR o), (1, vI x1), (2, vI x2), (3, vI x3)] [] F := by
  intro n
  induction n with
  | zero => intro o x1 x2 x3 res ho h hq; exact nomatch (show (none : Option _) = some _ from h)
  | succ n ih =>
    intro o x1 x2 x3 res ho h hq
    refine s_iload_n (j := 3) dX6_idle_4 rfl rfl ?_
    refine s_iload_n (j := 1) dX6_idle_5 rfl rfl ?_
    refine s_icmp_ge (tgt := 42) dX6_idle_6 rfl (fun hc1 => ?_) (fun hc1 => ?_)
    · have h := ifp hc1 h
      refine s_iload_n (j := 2) dX6_idle_42 rfl rfl ?_
      have h := Option.some.inj h
      subst h
      exact s_ireturn dX6_idle_43 rfl hq
    · have h := ifn hc1 h
      refine s_iload_n (j := 2) dX6_idle_9 rfl rfl ?_
      refine s_aload_n (j := 0) dX6_idle_10 rfl rfl ?_
      refine s_getR dX6_idle_11 flX6_9 ho ?_
      refine s_iload_n (j := 3) dX6_idle_14 rfl rfl ?_
      obtain ⟨hb2, h⟩ := gd h
      refine s_iaload dX6_idle_15 (trX6_0 ho) hb2.1 hb2.2 ?_
      refine s_iconst dX6_idle_16 (cin rfl) ?_
      refine s_icmp_eq (tgt := 33) dX6_idle_17 rfl (fun hc3 => ?_) (fun hc3 => ?_)
      · have h := ifp hc3 h
        refine s_iconst dX6_idle_33 (cin rfl) ?_
        refine s_iadd dX6_idle_34 ?_
        refine s_istore_n (ls' := [(2, vI (xw (x2 + 0))), (0, vR o), (1, vI x1), (3, vI x3)]) dX6_idle_35 rfl (Nat.le_of_ble_eq_true rfl) rfl ?_
        refine s_iinc (j := 3) dX6_idle_36 rfl (Nat.le_of_ble_eq_true rfl) rfl ?_
        refine s_goto (tgt := 4) dX6_idle_39 rfl ?_
        exact s_sub (ks := [2, 3, 1, 0]) rfl (ih o x1 (xw (x2 + 0)) (xw (x3 + 1)) _ ho h hq)
      · have h := ifn hc3 h
        refine s_aload_n (j := 0) dX6_idle_20 rfl rfl ?_
        refine s_getR dX6_idle_21 flX6_15 ho ?_
        refine s_iload_n (j := 3) dX6_idle_24 rfl rfl ?_
        obtain ⟨hb4, h⟩ := gd h
        refine s_iaload dX6_idle_25 (trX6_1 ho) hb4.1 hb4.2 ?_
        refine s_if_ne (tgt := 33) dX6_idle_26 rfl (fun hc5 => ?_) (fun hc5 => ?_)
        · have h := ifp hc5 h
          refine s_iconst dX6_idle_33 (cin rfl) ?_
          refine s_iadd dX6_idle_34 ?_
          refine s_istore_n (ls' := [(2, vI (xw (x2 + 0))), (0, vR o), (1, vI x1), (3, vI x3)]) dX6_idle_35 rfl (Nat.le_of_ble_eq_true rfl) rfl ?_
          refine s_iinc (j := 3) dX6_idle_36 rfl (Nat.le_of_ble_eq_true rfl) rfl ?_
          refine s_goto (tgt := 4) dX6_idle_39 rfl ?_
          exact s_sub (ks := [2, 3, 1, 0]) rfl (ih o x1 (xw (x2 + 0)) (xw (x3 + 1)) _ ho h hq)
        · have h := ifn hc5 h
          refine s_iconst dX6_idle_29 (cin rfl) ?_
          refine s_goto (tgt := 34) dX6_idle_30 rfl ?_
          refine s_iadd dX6_idle_34 ?_
          refine s_istore_n (ls' := [(2, vI (xw (x2 + 1))), (0, vR o), (1, vI x1), (3, vI x3)]) dX6_idle_35 rfl (Nat.le_of_ble_eq_true rfl) rfl ?_
          refine s_iinc (j := 3) dX6_idle_36 rfl (Nat.le_of_ble_eq_true rfl) rfl ?_
          refine s_goto (tgt := 4) dX6_idle_39 rfl ?_
          exact s_sub (ks := [2, 3, 1, 0]) rfl (ih o x1 (xw (x2 + 1)) (xw (x3 + 1)) _ ho h hq)
theorem fX6_idle_ok {Qr : Option PV → Mem → Prop} : ∀ (o : Nat) (x1 : Int) (F : Mem) (res : Int) (ho : isK o 6), fX6_idle o x1 F = some res → Qr (some (vI res)) F → PR cX6_idle (zX6_idle Qr) 0 [(0, vR o), (1, vI x1)] [] F := by
  intro o x1 F res ho h hq
  refine s_iconst dX6_idle_0 (cin rfl) ?_
  refine s_istore_n (ls' := [(2, vI 0), (0, vR o), (1, vI x1)]) dX6_idle_1 rfl (Nat.le_of_ble_eq_true rfl) rfl ?_
  refine s_iconst dX6_idle_2 (cin rfl) ?_
  refine s_istore_n dX6_idle_3 rfl (Nat.le_of_ble_eq_true rfl) rfl ?_
  exact s_sub (ks := [2, 3, 1, 0]) rfl (fX6_idle_b4_ok F FU o x1 0 0 _ ho h hq)
def gX6_idle : XG := fun As F r F' => ∃ o : Nat, ∃ x1 : Int, ∃ res : Int, As = [vR o, vI x1] ∧ isK o 6 ∧ fX6_idle o x1 F = some res ∧ r = some (vI res) ∧ F' = F
theorem ctX6_idle : xCT yX6_idle cX6_idle 4 (some FieldType.int) 0 0 gX6_idle := xmet (by decide +kernel) (fun As F r F' hg => by obtain ⟨o, x1, res, rfl, ho, h, rfl, rfl⟩ := hg; exact Nat.le_of_ble_eq_true rfl) (fun As F r F' hg => by obtain ⟨o, x1, res, rfl, ho, h, rfl, rfl⟩ := hg; exact fX6_idle_ok o x1 _ _ ho h ⟨rfl, rfl⟩)
theorem mcX6_idle : Cond.code yX6_idle cX6_idle 4 (some FieldType.int) ∈ xw_T ∧ Cond.initialized yX6_idle.cls ∈ xw_T ∧ Cond.instanceMethod yX6_idle ∈ xw_T ∧ Cond.selects yX6_idle.cls yX6_idle yX6_idle ∈ xw_T := ⟨(xinT 1214 (by decide +kernel) (by decide +kernel)), (xinT 125 (by decide +kernel) (by decide +kernel)), (xinT 1212 (by decide +kernel) (by decide +kernel)), (xinT 1213 (by decide +kernel) (by decide +kernel))⟩
theorem clX9_328 {fr lo : Nat} (h1 : 0 + 1 ≤ fr) (h2 : 8 + (4 + 11) + 0 ≤ lo) : xCall RX9 fr lo 0 328 6 1 gX6_idle := ⟨_, _, _, _, _, _, ctX6_idle, h1, h2, mcX6_idle.1, (xinT 1211 (by decide +kernel) (by decide +kernel)), mcX6_idle.2.1, ⟨by decide +kernel, by decide +kernel, by decide +kernel⟩, by rw [if_pos rfl]; exact ⟨mcX6_idle.2.2.1, mcX6_idle.2.2.2, _, _, rfl⟩⟩
theorem dX6_longest_0 : decode cX6_longest 0 = .ok (.iconst 0, 1) := by decide +kernel
theorem dX6_longest_1 : decode cX6_longest 1 = .ok (.istore_n 2, 1) := by decide +kernel
theorem dX6_longest_2 : decode cX6_longest 2 = .ok (.iconst 0, 1) := by decide +kernel
theorem dX6_longest_3 : decode cX6_longest 3 = .ok (.istore_n 3, 1) := by decide +kernel
theorem dX6_longest_4 : decode cX6_longest 4 = .ok (.iconst 0, 1) := by decide +kernel
theorem dX6_longest_5 : decode cX6_longest 5 = .ok (.istore 4, 2) := by decide +kernel
theorem dX6_longest_7 : decode cX6_longest 7 = .ok (.iload 4, 2) := by decide +kernel
theorem dX6_longest_9 : decode cX6_longest 9 = .ok (.iload_n 1, 1) := by decide +kernel
theorem dX6_longest_10 : decode cX6_longest 10 = .ok (.if_icmp .ge 74, 3) := by decide +kernel
theorem dX6_longest_13 : decode cX6_longest 13 = .ok (.iload 4, 2) := by decide +kernel
theorem dX6_longest_15 : decode cX6_longest 15 = .ok (.ifCond .le 26, 3) := by decide +kernel
theorem dX6_longest_18 : decode cX6_longest 18 = .ok (.aload_n 0, 1) := by decide +kernel
theorem dX6_longest_19 : decode cX6_longest 19 = .ok (.getfield 9, 3) := by decide +kernel
theorem dX6_longest_22 : decode cX6_longest 22 = .ok (.iload 4, 2) := by decide +kernel
theorem dX6_longest_24 : decode cX6_longest 24 = .ok (.iaload, 1) := by decide +kernel
theorem dX6_longest_25 : decode cX6_longest 25 = .ok (.aload_n 0, 1) := by decide +kernel
theorem dX6_longest_26 : decode cX6_longest 26 = .ok (.getfield 9, 3) := by decide +kernel
theorem dX6_longest_29 : decode cX6_longest 29 = .ok (.iload 4, 2) := by decide +kernel
theorem dX6_longest_31 : decode cX6_longest 31 = .ok (.iconst 1, 1) := by decide +kernel
theorem dX6_longest_32 : decode cX6_longest 32 = .ok (.isub, 1) := by decide +kernel
theorem dX6_longest_33 : decode cX6_longest 33 = .ok (.iaload, 1) := by decide +kernel
theorem dX6_longest_34 : decode cX6_longest 34 = .ok (.if_icmp .ne 7, 3) := by decide +kernel
theorem dX6_longest_37 : decode cX6_longest 37 = .ok (.iconst 1, 1) := by decide +kernel
theorem dX6_longest_38 : decode cX6_longest 38 = .ok (.goto 4, 3) := by decide +kernel
theorem dX6_longest_41 : decode cX6_longest 41 = .ok (.iconst 0, 1) := by decide +kernel
theorem dX6_longest_42 : decode cX6_longest 42 = .ok (.istore 5, 2) := by decide +kernel
theorem dX6_longest_44 : decode cX6_longest 44 = .ok (.aload_n 0, 1) := by decide +kernel
theorem dX6_longest_45 : decode cX6_longest 45 = .ok (.getfield 9, 3) := by decide +kernel
theorem dX6_longest_48 : decode cX6_longest 48 = .ok (.iload 4, 2) := by decide +kernel
theorem dX6_longest_50 : decode cX6_longest 50 = .ok (.iaload, 1) := by decide +kernel
theorem dX6_longest_51 : decode cX6_longest 51 = .ok (.iconst (-1), 1) := by decide +kernel
theorem dX6_longest_52 : decode cX6_longest 52 = .ok (.if_icmp .ne 7, 3) := by decide +kernel
theorem dX6_longest_55 : decode cX6_longest 55 = .ok (.iconst 0, 1) := by decide +kernel
theorem dX6_longest_56 : decode cX6_longest 56 = .ok (.goto 15, 3) := by decide +kernel
theorem dX6_longest_59 : decode cX6_longest 59 = .ok (.iload 5, 2) := by decide +kernel
theorem dX6_longest_61 : decode cX6_longest 61 = .ok (.ifCond .eq 9, 3) := by decide +kernel
theorem dX6_longest_64 : decode cX6_longest 64 = .ok (.iload_n 3, 1) := by decide +kernel
theorem dX6_longest_65 : decode cX6_longest 65 = .ok (.iconst 1, 1) := by decide +kernel
theorem dX6_longest_66 : decode cX6_longest 66 = .ok (.iadd, 1) := by decide +kernel
theorem dX6_longest_67 : decode cX6_longest 67 = .ok (.goto 4, 3) := by decide +kernel
theorem dX6_longest_70 : decode cX6_longest 70 = .ok (.iconst 1, 1) := by decide +kernel
theorem dX6_longest_71 : decode cX6_longest 71 = .ok (.istore_n 3, 1) := by decide +kernel
theorem dX6_longest_72 : decode cX6_longest 72 = .ok (.iload_n 2, 1) := by decide +kernel
theorem dX6_longest_73 : decode cX6_longest 73 = .ok (.iload_n 3, 1) := by decide +kernel
theorem dX6_longest_74 : decode cX6_longest 74 = .ok (.invokestatic 54, 3) := by decide +kernel
theorem dX6_longest_77 : decode cX6_longest 77 = .ok (.istore_n 2, 1) := by decide +kernel
theorem dX6_longest_78 : decode cX6_longest 78 = .ok (.iinc 4 1, 3) := by decide +kernel
theorem dX6_longest_81 : decode cX6_longest 81 = .ok (.goto (-74), 3) := by decide +kernel
theorem dX6_longest_84 : decode cX6_longest 84 = .ok (.iload_n 2, 1) := by decide +kernel
theorem dX6_longest_85 : decode cX6_longest 85 = .ok (.ireturn, 1) := by decide +kernel
def zX6_longest (Qr : Option PV → Mem → Prop) : XZ := (RX6, 1, 40, 6, some FieldType.int, Qr)
noncomputable def fX6_longest_b71 (F : Mem) (k7 : Nat → Int → Int → Int → Int → Option Int) (o : Nat) (x1 : Int) (x2 : Int) (x4 : Int) (s0 : Int) : Option Int :=
  k7 o x1 (xmax x2 s0) s0 (xw (x4 + 1))
noncomputable def fX6_longest_b42 (F : Mem) (k7 : Nat → Int → Int → Int → Int → Option Int) (o : Nat) (x1 : Int) (x2 : Int) (x3 : Int) (x4 : Int) (s0 : Int) : Option Int :=
  if (0 : Int) ≤ x4 ∧ x4 < (alen (o + 1) : Int) then
    if (F (o + 1) x4.toNat) ≠ (-1) then
      if s0 = 0 then
        fX6_longest_b71 F k7 o x1 x2 x4 1
      else
        fX6_longest_b71 F k7 o x1 x2 x4 (xw (x3 + 1))
    else
      fX6_longest_b71 F k7 o x1 x2 x4 0
  else none
noncomputable def fX6_longest_b7 (F : Mem) : Nat → Nat → Int → Int → Int → Int → Option Int
  | 0, _, _, _, _, _ => none
  | n + 1, o, x1, x2, x3, x4 =>
    if x1 ≤ x4 then
      some x2
    else
      if x4 ≤ 0 then
        fX6_longest_b42 F (fX6_longest_b7 F n) o x1 x2 x3 x4 0
      else
        if (0 : Int) ≤ x4 ∧ x4 < (alen (o + 1) : Int) then
          if (0 : Int) ≤ (xw (x4 - 1)) ∧ (xw (x4 - 1)) < (alen (o + 1) : Int) then
            if (F (o + 1) x4.toNat) ≠ (F (o + 1) (xw (x4 - 1)).toNat) then
              fX6_longest_b42 F (fX6_longest_b7 F n) o x1 x2 x3 x4 0
            else
              fX6_longest_b42 F (fX6_longest_b7 F n) o x1 x2 x3 x4 1
          else none
        else none
noncomputable def fX6_longest (o : Nat) (x1 : Int) (F : Mem) : Option Int :=
  fX6_longest_b7 F FU o x1 0 0 0
theorem fX6_longest_b71_ok {Qr : Option PV → Mem → Prop}  (F : Mem) (k7 : Nat → Int → Int → Int → Int → Option Int) (hk7 : ∀ (o : Nat) (x1 : Int) (x2 : Int) (x3 : Int) (x4 : Int) (res : Int) (ho : isK o 6), k7 o x1 x2 x3 x4 = some res → Qr (some (vI res)) F → PR cX6_longest (zX6_longest Qr) 7 [(0, vR o), (1, vI x1), (2, vI x2), (3, vI x3), (4, vI x4)] [] F) : ∀ (o : Nat) (x1 : Int) (x2 : Int) (x4 : Int) (s0 : Int) (res : Int) (ho : isK o 6), fX6_longest_b71 F k7 o x1 x2 x4 s0 = some res → Qr (some (vI res)) F → PR cX6_longest (zX6_longest Qr) 71 [(0, vR o), (1, vI x1), (2, vI x2), (4, vI x4)] [vI s0] F := by
  intro o x1 x2 x4 s0 res ho h hq
  refine s_istore_n (ls' := [(3, vI s0), (0, vR o), (1, vI x1), (2, vI x2), (4, vI x4)]) dX6_longest_71 rfl (Nat.le_of_ble_eq_true rfl) rfl ?_
  refine s_iload_n (j := 3) dX6_longest_72 rfl rfl ?_
  refine s_iload_n (j := 0) dX6_longest_73 rfl rfl ?_
  refine s_mmax dX6_longest_74 mtX6_54 (Nat.le_of_ble_eq_true rfl) ?_
  refine s_istore_n dX6_longest_77 rfl (Nat.le_of_ble_eq_true rfl) rfl ?_
  refine s_iinc (ls' := [(4, vI (xw (x4 + 1))), (2, vI (xmax x2 s0)), (3, vI s0), (0, vR o), (1, vI x1)]) (j := 4) dX6_longest_78 rfl (Nat.le_of_ble_eq_true rfl) rfl ?_
  refine s_goto (tgt := 7) dX6_longest_81 rfl ?_
  exact s_sub (ks := [3, 4, 1, 2, 0]) rfl (hk7 o x1 (xmax x2 s0) s0 (xw (x4 + 1)) _ ho h hq)
theorem fX6_longest_b42_ok {Qr : Option PV → Mem → Prop}  (F : Mem) (k7 : Nat → Int → Int → Int → Int → Option Int) (hk7 : ∀ (o : Nat) (x1 : Int) (x2 : Int) (x3 : Int) (x4 : Int) (res : Int) (ho : isK o 6), k7 o x1 x2 x3 x4 = some res → Qr (some (vI res)) F → PR cX6_longest (zX6_longest Qr) 7 [(0, vR o), (1, vI x1), (2, vI x2), (3, vI x3), (4, vI x4)] [] F) : ∀ (o : Nat) (x1 : Int) (x2 : Int) (x3 : Int) (x4 : Int) (s0 : Int) (res : Int) (ho : isK o 6), fX6_longest_b42 F k7 o x1 x2 x3 x4 s0 = some res → Qr (some (vI res)) F → PR cX6_longest (zX6_longest Qr) 42 [(0, vR o), (1, vI x1), (2, vI x2), (3, vI x3), (4, vI x4)] [vI s0] F := by
  intro o x1 x2 x3 x4 s0 res ho h hq
  refine s_istore (ls' := [(5, vI s0), (0, vR o), (1, vI x1), (2, vI x2), (3, vI x3), (4, vI x4)]) dX6_longest_42 (Nat.le_of_ble_eq_true rfl) rfl ?_
  refine s_aload_n (j := 1) dX6_longest_44 rfl rfl ?_
  refine s_getR dX6_longest_45 flX6_9 ho ?_
  refine s_iload (j := 5) dX6_longest_48 rfl ?_
  obtain ⟨hb1, h⟩ := gd h
  refine s_iaload dX6_longest_50 (trX6_0 ho) hb1.1 hb1.2 ?_
  refine s_iconst dX6_longest_51 (cin rfl) ?_
  refine s_icmp_ne (tgt := 59) dX6_longest_52 rfl (fun hc2 => ?_) (fun hc2 => ?_)
  · have h := ifp hc2 h
    refine s_iload (j := 0) dX6_longest_59 rfl ?_
    refine s_if_eq (tgt := 70) dX6_longest_61 rfl (fun hc3 => ?_) (fun hc3 => ?_)
    · have h := ifp hc3 h
      refine s_iconst dX6_longest_70 (cin rfl) ?_
      exact s_sub (ks := [1, 2, 3, 5]) rfl (fX6_longest_b71_ok F k7 hk7 o x1 x2 x4 1 _ ho h hq)
    · have h := ifn hc3 h
      refine s_iload_n (j := 4) dX6_longest_64 rfl rfl ?_
      refine s_iconst dX6_longest_65 (cin rfl) ?_
      refine s_iadd dX6_longest_66 ?_
      refine s_goto (tgt := 71) dX6_longest_67 rfl ?_
      exact s_sub (ks := [1, 2, 3, 5]) rfl (fX6_longest_b71_ok F k7 hk7 o x1 x2 x4 (xw (x3 + 1)) _ ho h hq)
  · have h := ifn hc2 h
    refine s_iconst dX6_longest_55 (cin rfl) ?_
    refine s_goto (tgt := 71) dX6_longest_56 rfl ?_
    exact s_sub (ks := [1, 2, 3, 5]) rfl (fX6_longest_b71_ok F k7 hk7 o x1 x2 x4 0 _ ho h hq)
theorem fX6_longest_b7_ok {Qr : Option PV → Mem → Prop}  (F : Mem) : ∀ (n : Nat) (o : Nat) (x1 : Int) (x2 : Int) (x3 : Int) (x4 : Int) (res : Int) (ho : isK o 6), fX6_longest_b7 F n o x1 x2 x3 x4 = some res → Qr (some (vI res)) F → PR cX6_longest (zX6_longest Qr) 7 [(0, vR o), (1, vI x1), (2, vI x2), (3, vI x3), (4, vI x4)] [] F := by
  intro n
  induction n with
  | zero => intro o x1 x2 x3 x4 res ho h hq; exact nomatch (show (none : Option _) = some _ from h)
  | succ n ih =>
    intro o x1 x2 x3 x4 res ho h hq
    refine s_iload (j := 4) dX6_longest_7 rfl ?_
    refine s_iload_n (j := 1) dX6_longest_9 rfl rfl ?_
    refine s_icmp_ge (tgt := 84) dX6_longest_10 rfl (fun hc1 => ?_) (fun hc1 => ?_)
    · have h := ifp hc1 h
      refine s_iload_n (j := 2) dX6_longest_84 rfl rfl ?_
      have h := Option.some.inj h
      subst h
      exact s_ireturn dX6_longest_85 rfl hq
    · have h := ifn hc1 h
      refine s_iload (j := 4) dX6_longest_13 rfl ?_
      refine s_if_le (tgt := 41) dX6_longest_15 rfl (fun hc2 => ?_) (fun hc2 => ?_)
      · have h := ifp hc2 h
        refine s_iconst dX6_longest_41 (cin rfl) ?_
        exact s_sub (ks := [0, 1, 2, 3, 4]) rfl (fX6_longest_b42_ok F (fX6_longest_b7 F n) ih o x1 x2 x3 x4 0 _ ho h hq)
      · have h := ifn hc2 h
        refine s_aload_n (j := 0) dX6_longest_18 rfl rfl ?_
        refine s_getR dX6_longest_19 flX6_9 ho ?_
        refine s_iload (j := 4) dX6_longest_22 rfl ?_
        obtain ⟨hb3, h⟩ := gd h
        refine s_iaload dX6_longest_24 (trX6_0 ho) hb3.1 hb3.2 ?_
        refine s_aload_n (j := 0) dX6_longest_25 rfl rfl ?_
        refine s_getR dX6_longest_26 flX6_9 ho ?_
        refine s_iload (j := 4) dX6_longest_29 rfl ?_
        refine s_iconst dX6_longest_31 (cin rfl) ?_
        refine s_isub dX6_longest_32 ?_
        obtain ⟨hb4, h⟩ := gd h
        refine s_iaload dX6_longest_33 (trX6_0 ho) hb4.1 hb4.2 ?_
        refine s_icmp_ne (tgt := 41) dX6_longest_34 rfl (fun hc5 => ?_) (fun hc5 => ?_)
        · have h := ifp hc5 h
          refine s_iconst dX6_longest_41 (cin rfl) ?_
          exact s_sub (ks := [0, 1, 2, 3, 4]) rfl (fX6_longest_b42_ok F (fX6_longest_b7 F n) ih o x1 x2 x3 x4 0 _ ho h hq)
        · have h := ifn hc5 h
          refine s_iconst dX6_longest_37 (cin rfl) ?_
          refine s_goto (tgt := 42) dX6_longest_38 rfl ?_
          exact s_sub (ks := [0, 1, 2, 3, 4]) rfl (fX6_longest_b42_ok F (fX6_longest_b7 F n) ih o x1 x2 x3 x4 1 _ ho h hq)
theorem fX6_longest_ok {Qr : Option PV → Mem → Prop} : ∀ (o : Nat) (x1 : Int) (F : Mem) (res : Int) (ho : isK o 6), fX6_longest o x1 F = some res → Qr (some (vI res)) F → PR cX6_longest (zX6_longest Qr) 0 [(0, vR o), (1, vI x1)] [] F := by
  intro o x1 F res ho h hq
  refine s_iconst dX6_longest_0 (cin rfl) ?_
  refine s_istore_n (ls' := [(2, vI 0), (0, vR o), (1, vI x1)]) dX6_longest_1 rfl (Nat.le_of_ble_eq_true rfl) rfl ?_
  refine s_iconst dX6_longest_2 (cin rfl) ?_
  refine s_istore_n dX6_longest_3 rfl (Nat.le_of_ble_eq_true rfl) rfl ?_
  refine s_iconst dX6_longest_4 (cin rfl) ?_
  refine s_istore (ls' := [(4, vI 0), (3, vI 0), (2, vI 0), (0, vR o), (1, vI x1)]) dX6_longest_5 (Nat.le_of_ble_eq_true rfl) rfl ?_
  exact s_sub (ks := [3, 4, 2, 1, 0]) rfl (fX6_longest_b7_ok F FU o x1 0 0 0 _ ho h hq)
def gX6_longest : XG := fun As F r F' => ∃ o : Nat, ∃ x1 : Int, ∃ res : Int, As = [vR o, vI x1] ∧ isK o 6 ∧ fX6_longest o x1 F = some res ∧ r = some (vI res) ∧ F' = F
theorem ctX6_longest : xCT yX6_longest cX6_longest 6 (some FieldType.int) 1 40 gX6_longest := xmet (by decide +kernel) (fun As F r F' hg => by obtain ⟨o, x1, res, rfl, ho, h, rfl, rfl⟩ := hg; exact Nat.le_of_ble_eq_true rfl) (fun As F r F' hg => by obtain ⟨o, x1, res, rfl, ho, h, rfl, rfl⟩ := hg; exact fX6_longest_ok o x1 _ _ ho h ⟨rfl, rfl⟩)
theorem mcX6_longest : Cond.code yX6_longest cX6_longest 6 (some FieldType.int) ∈ xw_T ∧ Cond.initialized yX6_longest.cls ∈ xw_T ∧ Cond.instanceMethod yX6_longest ∈ xw_T ∧ Cond.selects yX6_longest.cls yX6_longest yX6_longest ∈ xw_T := ⟨(xinT 1222 (by decide +kernel) (by decide +kernel)), (xinT 125 (by decide +kernel) (by decide +kernel)), (xinT 1220 (by decide +kernel) (by decide +kernel)), (xinT 1221 (by decide +kernel) (by decide +kernel))⟩
theorem clX9_334 {fr lo : Nat} (h1 : 1 + 1 ≤ fr) (h2 : 8 + (6 + 11) + 40 ≤ lo) : xCall RX9 fr lo 0 334 6 1 gX6_longest := ⟨_, _, _, _, _, _, ctX6_longest, h1, h2, mcX6_longest.1, (xinT 1219 (by decide +kernel) (by decide +kernel)), mcX6_longest.2.1, ⟨by decide +kernel, by decide +kernel, by decide +kernel⟩, by rw [if_pos rfl]; exact ⟨mcX6_longest.2.2.1, mcX6_longest.2.2.2, _, _, rfl⟩⟩
theorem dX6_works_0 : decode cX6_works 0 = .ok (.aload_n 1, 1) := by decide +kernel
theorem dX6_works_1 : decode cX6_works 1 = .ok (.iload_n 3, 1) := by decide +kernel
theorem dX6_works_2 : decode cX6_works 2 = .ok (.invokevirtual 92, 3) := by decide +kernel
theorem dX6_works_5 : decode cX6_works 5 = .ok (.istore 4, 2) := by decide +kernel
theorem dX6_works_7 : decode cX6_works 7 = .ok (.aload_n 1, 1) := by decide +kernel
theorem dX6_works_8 : decode cX6_works 8 = .ok (.getfield 32, 3) := by decide +kernel
theorem dX6_works_11 : decode cX6_works 11 = .ok (.aload_n 1, 1) := by decide +kernel
theorem dX6_works_12 : decode cX6_works 12 = .ok (.getfield 32, 3) := by decide +kernel
theorem dX6_works_15 : decode cX6_works 15 = .ok (.getfield 68, 3) := by decide +kernel
theorem dX6_works_18 : decode cX6_works 18 = .ok (.iload_n 2, 1) := by decide +kernel
theorem dX6_works_19 : decode cX6_works 19 = .ok (.iconst 1, 1) := by decide +kernel
theorem dX6_works_20 : decode cX6_works 20 = .ok (.invokevirtual 89, 3) := by decide +kernel
theorem dX6_works_23 : decode cX6_works 23 = .ok (.iload_n 3, 1) := by decide +kernel
theorem dX6_works_24 : decode cX6_works 24 = .ok (.invokevirtual 96, 3) := by decide +kernel
theorem dX6_works_27 : decode cX6_works 27 = .ok (.istore 5, 2) := by decide +kernel
theorem dX6_works_29 : decode cX6_works 29 = .ok (.aload_n 0, 1) := by decide +kernel
theorem dX6_works_30 : decode cX6_works 30 = .ok (.getfield 9, 3) := by decide +kernel
theorem dX6_works_33 : decode cX6_works 33 = .ok (.iload_n 3, 1) := by decide +kernel
theorem dX6_works_34 : decode cX6_works 34 = .ok (.iaload, 1) := by decide +kernel
theorem dX6_works_35 : decode cX6_works 35 = .ok (.iload_n 2, 1) := by decide +kernel
theorem dX6_works_36 : decode cX6_works 36 = .ok (.if_icmp .ne 24, 3) := by decide +kernel
theorem dX6_works_39 : decode cX6_works 39 = .ok (.iload 5, 2) := by decide +kernel
theorem dX6_works_41 : decode cX6_works 41 = .ok (.ifCond .eq 19, 3) := by decide +kernel
theorem dX6_works_44 : decode cX6_works 44 = .ok (.iload 4, 2) := by decide +kernel
theorem dX6_works_46 : decode cX6_works 46 = .ok (.iconst (-1), 1) := by decide +kernel
theorem dX6_works_47 : decode cX6_works 47 = .ok (.if_icmp .eq 9, 3) := by decide +kernel
theorem dX6_works_50 : decode cX6_works 50 = .ok (.iload 4, 2) := by decide +kernel
theorem dX6_works_52 : decode cX6_works 52 = .ok (.iload_n 2, 1) := by decide +kernel
theorem dX6_works_53 : decode cX6_works 53 = .ok (.if_icmp .ne 7, 3) := by decide +kernel
theorem dX6_works_56 : decode cX6_works 56 = .ok (.iconst 1, 1) := by decide +kernel
theorem dX6_works_57 : decode cX6_works 57 = .ok (.goto 4, 3) := by decide +kernel
theorem dX6_works_60 : decode cX6_works 60 = .ok (.iconst 0, 1) := by decide +kernel
theorem dX6_works_61 : decode cX6_works 61 = .ok (.ireturn, 1) := by decide +kernel
def zX6_works (Qr : Option PV → Mem → Prop) : XZ := (RX6, 1, 22, 6, some FieldType.boolean, Qr)
noncomputable def fX6_works (o : Nat) (x1 : Nat) (x2 : Int) (x3 : Int) (F : Mem) : Option Int :=
  if x1 = 0 then none else
  (fX1_holderOf x1 x3 F).bind fun r2 =>
  if x1 = 0 then none else
  if x1 = 0 then none else
  if (F x1 0).toNat = 0 then none else
  (fX3_cell (((F x1 0).toNat) + 1) x2 1 F).bind fun r9 =>
  if (F x1 0).toNat = 0 then none else
  if (0 : Int) ≤ x3 ∧ x3 < (alen (o + 1) : Int) then
    if (F (o + 1) x3.toNat) ≠ x2 then
      some 0
    else
      if (fX7_seesBy ((F x1 0).toNat) r9 x3 F) = 0 then
        some 0
      else
        if r2 = (-1) then
          some 1
        else
          if r2 ≠ x2 then
            some 0
          else
            some 1
  else none
theorem fX6_works_ok {Qr : Option PV → Mem → Prop} : ∀ (o : Nat) (x1 : Nat) (x2 : Int) (x3 : Int) (F : Mem) (res : Int) (ho : isK o 6) (hx1 : x1 = 0 ∨ isK x1 1), fX6_works o x1 x2 x3 F = some res → Qr (some (vI res)) F → PR cX6_works (zX6_works Qr) 0 [(0, vR o), (1, vR x1), (2, vI x2), (3, vI x3)] [] F := by
  intro o x1 x2 x3 F res ho hx1 h hq
  refine s_aload_n (j := 1) dX6_works_0 rfl rfl ?_
  refine s_iload_n (j := 3) dX6_works_1 rfl rfl ?_
  obtain ⟨hn1, h⟩ := gdn h
  obtain ⟨r2, hv3, h⟩ := bnd h
  refine s_callV (As := [vI x3]) (rest := []) (r := (some (vI r2))) (F' := F) dX6_works_2 (clX6_92 (Nat.le_of_ble_eq_true rfl) (Nat.le_of_ble_eq_true rfl)) (hx1.resolve_left hn1) rfl ⟨_, _, _, rfl, (hx1.resolve_left hn1), hv3, rfl, rfl⟩ rfl (Nat.le_of_ble_eq_true rfl) ?_
  refine s_istore (ls' := [(4, vI r2), (0, vR o), (1, vR x1), (2, vI x2), (3, vI x3)]) dX6_works_5 (Nat.le_of_ble_eq_true rfl) rfl ?_
  refine s_aload_n (j := 2) dX6_works_7 rfl rfl ?_
  obtain ⟨hn4, h⟩ := gdn h
  refine s_getM dX6_works_8 flX6_32 (hx1.resolve_left hn4) (fun hm5 => ?_)
  have hm5 : _ = 0 ∨ isK ((F x1 0).toNat) 7 := hm5
  refine s_aload_n (j := 2) dX6_works_11 rfl rfl ?_
  obtain ⟨hn6, h⟩ := gdn h
  refine s_getM dX6_works_12 flX6_32 (hx1.resolve_left hn6) (fun hm7 => ?_)
  have hm7 : _ = 0 ∨ isK ((F x1 0).toNat) 7 := hm7
  obtain ⟨hn8, h⟩ := gdn h
  refine s_getR dX6_works_15 flX6_68 (hm7.resolve_left hn8) ?_
  refine s_iload_n (j := 3) dX6_works_18 rfl rfl ?_
  refine s_iconst dX6_works_19 (cin rfl) ?_
  obtain ⟨r9, hv10, h⟩ := bnd h
  refine s_callV (As := [vI x2, vI 1]) (rest := [vR ((F x1 0).toNat)]) (r := (some (vI r9))) (F' := F) dX6_works_20 (clX6_89 (Nat.le_of_ble_eq_true rfl) (Nat.le_of_ble_eq_true rfl)) (trX7_5 (hm7.resolve_left hn8)) rfl ⟨_, _, _, _, rfl, (trX7_5 (hm7.resolve_left hn8)), hv10, rfl, rfl⟩ rfl (Nat.le_of_ble_eq_true rfl) ?_
  refine s_iload_n (j := 4) dX6_works_23 rfl rfl ?_
  obtain ⟨hn11, h⟩ := gdn h
  refine s_callV (As := [vI r9, vI x3]) (rest := []) (r := (some (vI (fX7_seesBy ((F x1 0).toNat) r9 x3 F)))) (F' := F) dX6_works_24 (clX6_96 (Nat.le_of_ble_eq_true rfl) (Nat.le_of_ble_eq_true rfl)) (hm5.resolve_left hn11) rfl ⟨_, _, _, _, rfl, (hm5.resolve_left hn11), rfl, rfl, rfl⟩ rfl (Nat.le_of_ble_eq_true rfl) ?_
  refine s_istore dX6_works_27 (Nat.le_of_ble_eq_true rfl) rfl ?_
  refine s_aload_n (j := 2) dX6_works_29 rfl rfl ?_
  refine s_getR dX6_works_30 flX6_9 ho ?_
  refine s_iload_n (j := 5) dX6_works_33 rfl rfl ?_
  obtain ⟨hb12, h⟩ := gd h
  refine s_iaload dX6_works_34 (trX6_0 ho) hb12.1 hb12.2 ?_
  refine s_iload_n (j := 4) dX6_works_35 rfl rfl ?_
  refine s_icmp_ne (tgt := 60) dX6_works_36 rfl (fun hc13 => ?_) (fun hc13 => ?_)
  · have h := ifp hc13 h
    refine s_iconst dX6_works_60 (cin rfl) ?_
    have h := Option.some.inj h
    subst h
    exact s_zreturn dX6_works_61 rfl (Or.inl rfl) hq
  · have h := ifn hc13 h
    refine s_iload (j := 0) dX6_works_39 rfl ?_
    refine s_if_eq (tgt := 60) dX6_works_41 rfl (fun hc14 => ?_) (fun hc14 => ?_)
    · have h := ifp hc14 h
      refine s_iconst dX6_works_60 (cin rfl) ?_
      have h := Option.some.inj h
      subst h
      exact s_zreturn dX6_works_61 rfl (Or.inl rfl) hq
    · have h := ifn hc14 h
      refine s_iload (j := 1) dX6_works_44 rfl ?_
      refine s_iconst dX6_works_46 (cin rfl) ?_
      refine s_icmp_eq (tgt := 56) dX6_works_47 rfl (fun hc15 => ?_) (fun hc15 => ?_)
      · have h := ifp hc15 h
        refine s_iconst dX6_works_56 (cin rfl) ?_
        refine s_goto (tgt := 61) dX6_works_57 rfl ?_
        have h := Option.some.inj h
        subst h
        exact s_zreturn dX6_works_61 rfl (Or.inr rfl) hq
      · have h := ifn hc15 h
        refine s_iload (j := 1) dX6_works_50 rfl ?_
        refine s_iload_n (j := 4) dX6_works_52 rfl rfl ?_
        refine s_icmp_ne (tgt := 60) dX6_works_53 rfl (fun hc16 => ?_) (fun hc16 => ?_)
        · have h := ifp hc16 h
          refine s_iconst dX6_works_60 (cin rfl) ?_
          have h := Option.some.inj h
          subst h
          exact s_zreturn dX6_works_61 rfl (Or.inl rfl) hq
        · have h := ifn hc16 h
          refine s_iconst dX6_works_56 (cin rfl) ?_
          refine s_goto (tgt := 61) dX6_works_57 rfl ?_
          have h := Option.some.inj h
          subst h
          exact s_zreturn dX6_works_61 rfl (Or.inr rfl) hq
def gX6_works : XG := fun As F r F' => ∃ o : Nat, ∃ x1 : Nat, ∃ x2 : Int, ∃ x3 : Int, ∃ res : Int, As = [vR o, vR x1, vI x2, vI x3] ∧ isK o 6 ∧ (x1 = 0 ∨ isK x1 1) ∧ fX6_works o x1 x2 x3 F = some res ∧ r = some (vI res) ∧ F' = F
theorem ctX6_works : xCT yX6_works cX6_works 6 (some FieldType.boolean) 1 22 gX6_works := xmet (by decide +kernel) (fun As F r F' hg => by obtain ⟨o, x1, x2, x3, res, rfl, ho, hx1, h, rfl, rfl⟩ := hg; exact Nat.le_of_ble_eq_true rfl) (fun As F r F' hg => by obtain ⟨o, x1, x2, x3, res, rfl, ho, hx1, h, rfl, rfl⟩ := hg; exact fX6_works_ok o x1 x2 x3 _ _ ho hx1 h ⟨rfl, rfl⟩)
theorem mcX6_works : Cond.code yX6_works cX6_works 6 (some FieldType.boolean) ∈ xw_T ∧ Cond.initialized yX6_works.cls ∈ xw_T ∧ Cond.instanceMethod yX6_works ∈ xw_T ∧ Cond.selects yX6_works.cls yX6_works yX6_works ∈ xw_T := ⟨(xinT 1207 (by decide +kernel) (by decide +kernel)), (xinT 125 (by decide +kernel) (by decide +kernel)), (xinT 1206 (by decide +kernel) (by decide +kernel)), (xinT 34 (by decide +kernel) (by decide +kernel))⟩
theorem clX6_85 {fr lo : Nat} (h1 : 1 + 1 ≤ fr) (h2 : 8 + (6 + 11) + 22 ≤ lo) : xCall RX6 fr lo 0 85 6 3 gX6_works := ⟨_, _, _, _, _, _, ctX6_works, h1, h2, mcX6_works.1, (xinT 1204 (by decide +kernel) (by decide +kernel)), mcX6_works.2.1, ⟨by decide +kernel, by decide +kernel, by decide +kernel⟩, by rw [if_pos rfl]; exact ⟨mcX6_works.2.2.1, mcX6_works.2.2.2, _, _, rfl⟩⟩
theorem dX6_spoiled_0 : decode cX6_spoiled 0 = .ok (.iconst 0, 1) := by decide +kernel
theorem dX6_spoiled_1 : decode cX6_spoiled 1 = .ok (.istore_n 2, 1) := by decide +kernel
theorem dX6_spoiled_2 : decode cX6_spoiled 2 = .ok (.iconst 0, 1) := by decide +kernel
theorem dX6_spoiled_3 : decode cX6_spoiled 3 = .ok (.istore_n 3, 1) := by decide +kernel
theorem dX6_spoiled_4 : decode cX6_spoiled 4 = .ok (.iload_n 3, 1) := by decide +kernel
theorem dX6_spoiled_5 : decode cX6_spoiled 5 = .ok (.aload_n 1, 1) := by decide +kernel
theorem dX6_spoiled_6 : decode cX6_spoiled 6 = .ok (.getfield 32, 3) := by decide +kernel
theorem dX6_spoiled_9 : decode cX6_spoiled 9 = .ok (.getfield 68, 3) := by decide +kernel
theorem dX6_spoiled_12 : decode cX6_spoiled 12 = .ok (.getfield 72, 3) := by decide +kernel
theorem dX6_spoiled_15 : decode cX6_spoiled 15 = .ok (.if_icmp .ge 64, 3) := by decide +kernel
theorem dX6_spoiled_18 : decode cX6_spoiled 18 = .ok (.iconst 0, 1) := by decide +kernel
theorem dX6_spoiled_19 : decode cX6_spoiled 19 = .ok (.istore 4, 2) := by decide +kernel
theorem dX6_spoiled_21 : decode cX6_spoiled 21 = .ok (.iload 4, 2) := by decide +kernel
theorem dX6_spoiled_23 : decode cX6_spoiled 23 = .ok (.aload_n 1, 1) := by decide +kernel
theorem dX6_spoiled_24 : decode cX6_spoiled 24 = .ok (.getfield 43, 3) := by decide +kernel
theorem dX6_spoiled_27 : decode cX6_spoiled 27 = .ok (.if_icmp .ge 46, 3) := by decide +kernel
theorem dX6_spoiled_30 : decode cX6_spoiled 30 = .ok (.aload_n 1, 1) := by decide +kernel
theorem dX6_spoiled_31 : decode cX6_spoiled 31 = .ok (.getfield 32, 3) := by decide +kernel
theorem dX6_spoiled_34 : decode cX6_spoiled 34 = .ok (.iload_n 3, 1) := by decide +kernel
theorem dX6_spoiled_35 : decode cX6_spoiled 35 = .ok (.invokevirtual 81, 3) := by decide +kernel
theorem dX6_spoiled_38 : decode cX6_spoiled 38 = .ok (.ifCond .ne 29, 3) := by decide +kernel
theorem dX6_spoiled_41 : decode cX6_spoiled 41 = .ok (.aload_n 0, 1) := by decide +kernel
theorem dX6_spoiled_42 : decode cX6_spoiled 42 = .ok (.aload_n 1, 1) := by decide +kernel
theorem dX6_spoiled_43 : decode cX6_spoiled 43 = .ok (.iload_n 3, 1) := by decide +kernel
theorem dX6_spoiled_44 : decode cX6_spoiled 44 = .ok (.iload 4, 2) := by decide +kernel
theorem dX6_spoiled_46 : decode cX6_spoiled 46 = .ok (.invokevirtual 85, 3) := by decide +kernel
theorem dX6_spoiled_49 : decode cX6_spoiled 49 = .ok (.ifCond .ne 18, 3) := by decide +kernel
theorem dX6_spoiled_52 : decode cX6_spoiled 52 = .ok (.iload_n 2, 1) := by decide +kernel
theorem dX6_spoiled_53 : decode cX6_spoiled 53 = .ok (.aload_n 1, 1) := by decide +kernel
theorem dX6_spoiled_54 : decode cX6_spoiled 54 = .ok (.getfield 32, 3) := by decide +kernel
theorem dX6_spoiled_57 : decode cX6_spoiled 57 = .ok (.getfield 68, 3) := by decide +kernel
theorem dX6_spoiled_60 : decode cX6_spoiled 60 = .ok (.iload_n 3, 1) := by decide +kernel
theorem dX6_spoiled_61 : decode cX6_spoiled 61 = .ok (.iconst 3, 1) := by decide +kernel
theorem dX6_spoiled_62 : decode cX6_spoiled 62 = .ok (.invokevirtual 89, 3) := by decide +kernel
theorem dX6_spoiled_65 : decode cX6_spoiled 65 = .ok (.iadd, 1) := by decide +kernel
theorem dX6_spoiled_66 : decode cX6_spoiled 66 = .ok (.istore_n 2, 1) := by decide +kernel
theorem dX6_spoiled_67 : decode cX6_spoiled 67 = .ok (.iinc 4 1, 3) := by decide +kernel
theorem dX6_spoiled_70 : decode cX6_spoiled 70 = .ok (.goto (-49), 3) := by decide +kernel
theorem dX6_spoiled_73 : decode cX6_spoiled 73 = .ok (.iinc 3 1, 3) := by decide +kernel
theorem dX6_spoiled_76 : decode cX6_spoiled 76 = .ok (.goto (-72), 3) := by decide +kernel
theorem dX6_spoiled_79 : decode cX6_spoiled 79 = .ok (.iload_n 2, 1) := by decide +kernel
theorem dX6_spoiled_80 : decode cX6_spoiled 80 = .ok (.ireturn, 1) := by decide +kernel
def zX6_spoiled (Qr : Option PV → Mem → Prop) : XZ := (RX6, 2, 47, 5, some FieldType.int, Qr)
noncomputable def fX6_spoiled_b21 (F : Mem) (k4 : Nat → Nat → Int → Int → Option Int) : Nat → Nat → Nat → Int → Int → Int → Option Int
  | 0, _, _, _, _, _ => none
  | n + 1, o, x1, x2, x3, x4 =>
    if x1 = 0 then none else
    if (F x1 4) ≤ x4 then
      k4 o x1 x2 (xw (x3 + 1))
    else
      if x1 = 0 then none else
      if (F x1 0).toNat = 0 then none else
      (fX7_isTouch ((F x1 0).toNat) x3 F).bind fun r6 =>
      if r6 ≠ 0 then
        fX6_spoiled_b21 F k4 n o x1 x2 x3 (xw (x4 + 1))
      else
        (fX6_works o x1 x3 x4 F).bind fun r9 =>
        if r9 ≠ 0 then
          fX6_spoiled_b21 F k4 n o x1 x2 x3 (xw (x4 + 1))
        else
          if x1 = 0 then none else
          if (F x1 0).toNat = 0 then none else
          (fX3_cell (((F x1 0).toNat) + 1) x3 3 F).bind fun r15 =>
          fX6_spoiled_b21 F k4 n o x1 (xw (x2 + r15)) x3 (xw (x4 + 1))
noncomputable def fX6_spoiled_b4 (F : Mem) : Nat → Nat → Nat → Int → Int → Option Int
  | 0, _, _, _, _ => none
  | n + 1, o, x1, x2, x3 =>
    if x1 = 0 then none else
    if (F x1 0).toNat = 0 then none else
    if (F (((F x1 0).toNat) + 1) 3) ≤ x3 then
      some x2
    else
      fX6_spoiled_b21 F (fX6_spoiled_b4 F n) FU o x1 x2 x3 0
noncomputable def fX6_spoiled (o : Nat) (x1 : Nat) (F : Mem) : Option Int :=
  fX6_spoiled_b4 F FU o x1 0 0
theorem fX6_spoiled_b21_ok {Qr : Option PV → Mem → Prop}  (F : Mem) (k4 : Nat → Nat → Int → Int → Option Int) (hk4 : ∀ (o : Nat) (x1 : Nat) (x2 : Int) (x3 : Int) (res : Int) (ho : isK o 6) (hx1 : x1 = 0 ∨ isK x1 1), k4 o x1 x2 x3 = some res → Qr (some (vI res)) F → PR cX6_spoiled (zX6_spoiled Qr) 4 [(0, vR o), (1, vR x1), (2, vI x2), (3, vI x3)] [] F) : ∀ (n : Nat) (o : Nat) (x1 : Nat) (x2 : Int) (x3 : Int) (x4 : Int) (res : Int) (ho : isK o 6) (hx1 : x1 = 0 ∨ isK x1 1), fX6_spoiled_b21 F k4 n o x1 x2 x3 x4 = some res → Qr (some (vI res)) F → PR cX6_spoiled (zX6_spoiled Qr) 21 [(0, vR o), (1, vR x1), (2, vI x2), (3, vI x3), (4, vI x4)] [] F := by
  intro n
  induction n with
  | zero => intro o x1 x2 x3 x4 res ho hx1 h hq; exact nomatch (show (none : Option _) = some _ from h)
  | succ n ih =>
    intro o x1 x2 x3 x4 res ho hx1 h hq
    refine s_iload (j := 4) dX6_spoiled_21 rfl ?_
    refine s_aload_n (j := 1) dX6_spoiled_23 rfl rfl ?_
    obtain ⟨hn1, h⟩ := gdn h
    refine s_getI dX6_spoiled_24 flX6_43 (hx1.resolve_left hn1) ?_
    refine s_icmp_ge (tgt := 73) dX6_spoiled_27 rfl (fun hc2 => ?_) (fun hc2 => ?_)
    · have h := ifp hc2 h
      refine s_iinc (ls' := [(3, vI (xw (x3 + 1))), (0, vR o), (1, vR x1), (2, vI x2), (4, vI x4)]) (j := 3) dX6_spoiled_73 rfl (Nat.le_of_ble_eq_true rfl) rfl ?_
      refine s_goto (tgt := 4) dX6_spoiled_76 rfl ?_
      exact s_sub (ks := [1, 2, 3, 0]) rfl (hk4 o x1 x2 (xw (x3 + 1)) _ ho hx1 h hq)
    · have h := ifn hc2 h
      refine s_aload_n (j := 1) dX6_spoiled_30 rfl rfl ?_
      obtain ⟨hn3, h⟩ := gdn h
      refine s_getM dX6_spoiled_31 flX6_32 (hx1.resolve_left hn3) (fun hm4 => ?_)
      have hm4 : _ = 0 ∨ isK ((F x1 0).toNat) 7 := hm4
      refine s_iload_n (j := 3) dX6_spoiled_34 rfl rfl ?_
      obtain ⟨hn5, h⟩ := gdn h
      obtain ⟨r6, hv7, h⟩ := bnd h
      refine s_callV (As := [vI x3]) (rest := []) (r := (some (vI r6))) (F' := F) dX6_spoiled_35 (clX6_81 (Nat.le_of_ble_eq_true rfl) (Nat.le_of_ble_eq_true rfl)) (hm4.resolve_left hn5) rfl ⟨_, _, _, rfl, (hm4.resolve_left hn5), hv7, rfl, rfl⟩ rfl (Nat.le_of_ble_eq_true rfl) ?_
      refine s_if_ne (tgt := 67) dX6_spoiled_38 rfl (fun hc8 => ?_) (fun hc8 => ?_)
      · have h := ifp hc8 h
        refine s_iinc (ls' := [(4, vI (xw (x4 + 1))), (0, vR o), (1, vR x1), (2, vI x2), (3, vI x3)]) (j := 4) dX6_spoiled_67 rfl (Nat.le_of_ble_eq_true rfl) rfl ?_
        refine s_goto (tgt := 21) dX6_spoiled_70 rfl ?_
        exact s_sub (ks := [1, 2, 3, 4, 0]) rfl (ih o x1 x2 x3 (xw (x4 + 1)) _ ho hx1 h hq)
      · have h := ifn hc8 h
        refine s_aload_n (j := 0) dX6_spoiled_41 rfl rfl ?_
        refine s_aload_n (j := 1) dX6_spoiled_42 rfl rfl ?_
        refine s_iload_n (j := 3) dX6_spoiled_43 rfl rfl ?_
        refine s_iload (j := 4) dX6_spoiled_44 rfl ?_
        obtain ⟨r9, hv10, h⟩ := bnd h
        refine s_callV (As := [vR x1, vI x3, vI x4]) (rest := []) (r := (some (vI r9))) (F' := F) dX6_spoiled_46 (clX6_85 (Nat.le_of_ble_eq_true rfl) (Nat.le_of_ble_eq_true rfl)) ho rfl ⟨_, _, _, _, _, rfl, ho, hx1, hv10, rfl, rfl⟩ rfl (Nat.le_of_ble_eq_true rfl) ?_
        refine s_if_ne (tgt := 67) dX6_spoiled_49 rfl (fun hc11 => ?_) (fun hc11 => ?_)
        · have h := ifp hc11 h
          refine s_iinc (ls' := [(4, vI (xw (x4 + 1))), (0, vR o), (1, vR x1), (2, vI x2), (3, vI x3)]) (j := 4) dX6_spoiled_67 rfl (Nat.le_of_ble_eq_true rfl) rfl ?_
          refine s_goto (tgt := 21) dX6_spoiled_70 rfl ?_
          exact s_sub (ks := [1, 2, 3, 4, 0]) rfl (ih o x1 x2 x3 (xw (x4 + 1)) _ ho hx1 h hq)
        · have h := ifn hc11 h
          refine s_iload_n (j := 2) dX6_spoiled_52 rfl rfl ?_
          refine s_aload_n (j := 1) dX6_spoiled_53 rfl rfl ?_
          obtain ⟨hn12, h⟩ := gdn h
          refine s_getM dX6_spoiled_54 flX6_32 (hx1.resolve_left hn12) (fun hm13 => ?_)
          have hm13 : _ = 0 ∨ isK ((F x1 0).toNat) 7 := hm13
          obtain ⟨hn14, h⟩ := gdn h
          refine s_getR dX6_spoiled_57 flX6_68 (hm13.resolve_left hn14) ?_
          refine s_iload_n (j := 3) dX6_spoiled_60 rfl rfl ?_
          refine s_iconst dX6_spoiled_61 (cin rfl) ?_
          obtain ⟨r15, hv16, h⟩ := bnd h
          refine s_callV (As := [vI x3, vI 3]) (rest := [vI x2]) (r := (some (vI r15))) (F' := F) dX6_spoiled_62 (clX6_89 (Nat.le_of_ble_eq_true rfl) (Nat.le_of_ble_eq_true rfl)) (trX7_5 (hm13.resolve_left hn14)) rfl ⟨_, _, _, _, rfl, (trX7_5 (hm13.resolve_left hn14)), hv16, rfl, rfl⟩ rfl (Nat.le_of_ble_eq_true rfl) ?_
          refine s_iadd dX6_spoiled_65 ?_
          refine s_istore_n (ls' := [(2, vI (xw (x2 + r15))), (0, vR o), (1, vR x1), (3, vI x3), (4, vI x4)]) dX6_spoiled_66 rfl (Nat.le_of_ble_eq_true rfl) rfl ?_
          refine s_iinc (j := 4) dX6_spoiled_67 rfl (Nat.le_of_ble_eq_true rfl) rfl ?_
          refine s_goto (tgt := 21) dX6_spoiled_70 rfl ?_
          exact s_sub (ks := [2, 3, 1, 4, 0]) rfl (ih o x1 (xw (x2 + r15)) x3 (xw (x4 + 1)) _ ho hx1 h hq)
theorem fX6_spoiled_b4_ok {Qr : Option PV → Mem → Prop}  (F : Mem) : ∀ (n : Nat) (o : Nat) (x1 : Nat) (x2 : Int) (x3 : Int) (res : Int) (ho : isK o 6) (hx1 : x1 = 0 ∨ isK x1 1), fX6_spoiled_b4 F n o x1 x2 x3 = some res → Qr (some (vI res)) F → PR cX6_spoiled (zX6_spoiled Qr) 4 [(0, vR o), (1, vR x1), (2, vI x2), (3, vI x3)] [] F := by
  intro n
  induction n with
  | zero => intro o x1 x2 x3 res ho hx1 h hq; exact nomatch (show (none : Option _) = some _ from h)
  | succ n ih =>
    intro o x1 x2 x3 res ho hx1 h hq
    refine s_iload_n (j := 3) dX6_spoiled_4 rfl rfl ?_
    refine s_aload_n (j := 1) dX6_spoiled_5 rfl rfl ?_
    obtain ⟨hn1, h⟩ := gdn h
    refine s_getM dX6_spoiled_6 flX6_32 (hx1.resolve_left hn1) (fun hm2 => ?_)
    have hm2 : _ = 0 ∨ isK ((F x1 0).toNat) 7 := hm2
    obtain ⟨hn3, h⟩ := gdn h
    refine s_getR dX6_spoiled_9 flX6_68 (hm2.resolve_left hn3) ?_
    refine s_getI dX6_spoiled_12 flX6_72 (trX7_5 (hm2.resolve_left hn3)) ?_
    refine s_icmp_ge (tgt := 79) dX6_spoiled_15 rfl (fun hc4 => ?_) (fun hc4 => ?_)
    · have h := ifp hc4 h
      refine s_iload_n (j := 2) dX6_spoiled_79 rfl rfl ?_
      have h := Option.some.inj h
      subst h
      exact s_ireturn dX6_spoiled_80 rfl hq
    · have h := ifn hc4 h
      refine s_iconst dX6_spoiled_18 (cin rfl) ?_
      refine s_istore (ls' := [(4, vI 0), (0, vR o), (1, vR x1), (2, vI x2), (3, vI x3)]) dX6_spoiled_19 (Nat.le_of_ble_eq_true rfl) rfl ?_
      exact s_sub (ks := [1, 2, 3, 4, 0]) rfl (fX6_spoiled_b21_ok F (fX6_spoiled_b4 F n) ih FU o x1 x2 x3 0 _ ho hx1 h hq)
theorem fX6_spoiled_ok {Qr : Option PV → Mem → Prop} : ∀ (o : Nat) (x1 : Nat) (F : Mem) (res : Int) (ho : isK o 6) (hx1 : x1 = 0 ∨ isK x1 1), fX6_spoiled o x1 F = some res → Qr (some (vI res)) F → PR cX6_spoiled (zX6_spoiled Qr) 0 [(0, vR o), (1, vR x1)] [] F := by
  intro o x1 F res ho hx1 h hq
  refine s_iconst dX6_spoiled_0 (cin rfl) ?_
  refine s_istore_n (ls' := [(2, vI 0), (0, vR o), (1, vR x1)]) dX6_spoiled_1 rfl (Nat.le_of_ble_eq_true rfl) rfl ?_
  refine s_iconst dX6_spoiled_2 (cin rfl) ?_
  refine s_istore_n dX6_spoiled_3 rfl (Nat.le_of_ble_eq_true rfl) rfl ?_
  exact s_sub (ks := [2, 3, 1, 0]) rfl (fX6_spoiled_b4_ok F FU o x1 0 0 _ ho hx1 h hq)
def gX6_spoiled : XG := fun As F r F' => ∃ o : Nat, ∃ x1 : Nat, ∃ res : Int, As = [vR o, vR x1] ∧ isK o 6 ∧ (x1 = 0 ∨ isK x1 1) ∧ fX6_spoiled o x1 F = some res ∧ r = some (vI res) ∧ F' = F
theorem ctX6_spoiled : xCT yX6_spoiled cX6_spoiled 5 (some FieldType.int) 2 47 gX6_spoiled := xmet (by decide +kernel) (fun As F r F' hg => by obtain ⟨o, x1, res, rfl, ho, hx1, h, rfl, rfl⟩ := hg; exact Nat.le_of_ble_eq_true rfl) (fun As F r F' hg => by obtain ⟨o, x1, res, rfl, ho, hx1, h, rfl, rfl⟩ := hg; exact fX6_spoiled_ok o x1 _ _ ho hx1 h ⟨rfl, rfl⟩)
theorem mcX6_spoiled : Cond.code yX6_spoiled cX6_spoiled 5 (some FieldType.int) ∈ xw_T ∧ Cond.initialized yX6_spoiled.cls ∈ xw_T ∧ Cond.instanceMethod yX6_spoiled ∈ xw_T ∧ Cond.selects yX6_spoiled.cls yX6_spoiled yX6_spoiled ∈ xw_T := ⟨(xinT 1202 (by decide +kernel) (by decide +kernel)), (xinT 125 (by decide +kernel) (by decide +kernel)), (xinT 1200 (by decide +kernel) (by decide +kernel)), (xinT 1201 (by decide +kernel) (by decide +kernel))⟩
theorem clX9_323 {fr lo : Nat} (h1 : 2 + 1 ≤ fr) (h2 : 8 + (5 + 11) + 47 ≤ lo) : xCall RX9 fr lo 0 323 6 1 gX6_spoiled := ⟨_, _, _, _, _, _, ctX6_spoiled, h1, h2, mcX6_spoiled.1, (xinT 1199 (by decide +kernel) (by decide +kernel)), mcX6_spoiled.2.1, ⟨by decide +kernel, by decide +kernel, by decide +kernel⟩, by rw [if_pos rfl]; exact ⟨mcX6_spoiled.2.2.1, mcX6_spoiled.2.2.2, _, _, rfl⟩⟩
theorem dX6_waysFrom_0 : decode cX6_waysFrom 0 = .ok (.aload_n 1, 1) := by decide +kernel
theorem dX6_waysFrom_1 : decode cX6_waysFrom 1 = .ok (.iload_n 2, 1) := by decide +kernel
theorem dX6_waysFrom_2 : decode cX6_waysFrom 2 = .ok (.iload_n 3, 1) := by decide +kernel
theorem dX6_waysFrom_3 : decode cX6_waysFrom 3 = .ok (.invokevirtual 62, 3) := by decide +kernel
theorem dX6_waysFrom_6 : decode cX6_waysFrom 6 = .ok (.istore 4, 2) := by decide +kernel
theorem dX6_waysFrom_8 : decode cX6_waysFrom 8 = .ok (.iload 4, 2) := by decide +kernel
theorem dX6_waysFrom_10 : decode cX6_waysFrom 10 = .ok (.invokestatic 110, 3) := by decide +kernel
theorem dX6_waysFrom_13 : decode cX6_waysFrom 13 = .ok (.ifCond .ne 5, 3) := by decide +kernel
theorem dX6_waysFrom_16 : decode cX6_waysFrom 16 = .ok (.lconst 0, 1) := by decide +kernel
theorem dX6_waysFrom_17 : decode cX6_waysFrom 17 = .ok (.lreturn, 1) := by decide +kernel
theorem dX6_waysFrom_18 : decode cX6_waysFrom 18 = .ok (.aload_n 1, 1) := by decide +kernel
theorem dX6_waysFrom_19 : decode cX6_waysFrom 19 = .ok (.iload_n 2, 1) := by decide +kernel
theorem dX6_waysFrom_20 : decode cX6_waysFrom 20 = .ok (.iload_n 3, 1) := by decide +kernel
theorem dX6_waysFrom_21 : decode cX6_waysFrom 21 = .ok (.invokevirtual 65, 3) := by decide +kernel
theorem dX6_waysFrom_24 : decode cX6_waysFrom 24 = .ok (.iload 4, 2) := by decide +kernel
theorem dX6_waysFrom_26 : decode cX6_waysFrom 26 = .ok (.if_icmp .ne 19, 3) := by decide +kernel
theorem dX6_waysFrom_29 : decode cX6_waysFrom 29 = .ok (.aload_n 0, 1) := by decide +kernel
theorem dX6_waysFrom_30 : decode cX6_waysFrom 30 = .ok (.getfield 28, 3) := by decide +kernel
theorem dX6_waysFrom_33 : decode cX6_waysFrom 33 = .ok (.iload_n 2, 1) := by decide +kernel
theorem dX6_waysFrom_34 : decode cX6_waysFrom 34 = .ok (.iconst 1, 1) := by decide +kernel
theorem dX6_waysFrom_35 : decode cX6_waysFrom 35 = .ok (.iadd, 1) := by decide +kernel
theorem dX6_waysFrom_36 : decode cX6_waysFrom 36 = .ok (.bipush 8, 2) := by decide +kernel
theorem dX6_waysFrom_38 : decode cX6_waysFrom 38 = .ok (.imul, 1) := by decide +kernel
theorem dX6_waysFrom_39 : decode cX6_waysFrom 39 = .ok (.iload_n 3, 1) := by decide +kernel
theorem dX6_waysFrom_40 : decode cX6_waysFrom 40 = .ok (.iadd, 1) := by decide +kernel
theorem dX6_waysFrom_41 : decode cX6_waysFrom 41 = .ok (.laload, 1) := by decide +kernel
theorem dX6_waysFrom_42 : decode cX6_waysFrom 42 = .ok (.goto 4, 3) := by decide +kernel
theorem dX6_waysFrom_45 : decode cX6_waysFrom 45 = .ok (.lconst 0, 1) := by decide +kernel
theorem dX6_waysFrom_46 : decode cX6_waysFrom 46 = .ok (.lstore 5, 2) := by decide +kernel
theorem dX6_waysFrom_48 : decode cX6_waysFrom 48 = .ok (.iconst 0, 1) := by decide +kernel
theorem dX6_waysFrom_49 : decode cX6_waysFrom 49 = .ok (.istore 7, 2) := by decide +kernel
theorem dX6_waysFrom_51 : decode cX6_waysFrom 51 = .ok (.iload 7, 2) := by decide +kernel
theorem dX6_waysFrom_53 : decode cX6_waysFrom 53 = .ok (.aload_n 1, 1) := by decide +kernel
theorem dX6_waysFrom_54 : decode cX6_waysFrom 54 = .ok (.getfield 32, 3) := by decide +kernel
theorem dX6_waysFrom_57 : decode cX6_waysFrom 57 = .ok (.getfield 68, 3) := by decide +kernel
theorem dX6_waysFrom_60 : decode cX6_waysFrom 60 = .ok (.getfield 72, 3) := by decide +kernel
theorem dX6_waysFrom_63 : decode cX6_waysFrom 63 = .ok (.if_icmp .ge 53, 3) := by decide +kernel
theorem dX6_waysFrom_66 : decode cX6_waysFrom 66 = .ok (.iload 7, 2) := by decide +kernel
theorem dX6_waysFrom_68 : decode cX6_waysFrom 68 = .ok (.iload_n 3, 1) := by decide +kernel
theorem dX6_waysFrom_69 : decode cX6_waysFrom 69 = .ok (.if_icmp .eq 41, 3) := by decide +kernel
theorem dX6_waysFrom_72 : decode cX6_waysFrom 72 = .ok (.aload_n 1, 1) := by decide +kernel
theorem dX6_waysFrom_73 : decode cX6_waysFrom 73 = .ok (.iload_n 2, 1) := by decide +kernel
theorem dX6_waysFrom_74 : decode cX6_waysFrom 74 = .ok (.iload_n 3, 1) := by decide +kernel
theorem dX6_waysFrom_75 : decode cX6_waysFrom 75 = .ok (.iload 7, 2) := by decide +kernel
theorem dX6_waysFrom_77 : decode cX6_waysFrom 77 = .ok (.invokevirtual 77, 3) := by decide +kernel
theorem dX6_waysFrom_80 : decode cX6_waysFrom 80 = .ok (.iload 4, 2) := by decide +kernel
theorem dX6_waysFrom_82 : decode cX6_waysFrom 82 = .ok (.if_icmp .ne 28, 3) := by decide +kernel
theorem dX6_waysFrom_85 : decode cX6_waysFrom 85 = .ok (.lload 5, 2) := by decide +kernel
theorem dX6_waysFrom_87 : decode cX6_waysFrom 87 = .ok (.aload_n 0, 1) := by decide +kernel
theorem dX6_waysFrom_88 : decode cX6_waysFrom 88 = .ok (.getfield 28, 3) := by decide +kernel
theorem dX6_waysFrom_91 : decode cX6_waysFrom 91 = .ok (.iload_n 2, 1) := by decide +kernel
theorem dX6_waysFrom_92 : decode cX6_waysFrom 92 = .ok (.aload_n 1, 1) := by decide +kernel
theorem dX6_waysFrom_93 : decode cX6_waysFrom 93 = .ok (.iload_n 3, 1) := by decide +kernel
theorem dX6_waysFrom_94 : decode cX6_waysFrom 94 = .ok (.iload 7, 2) := by decide +kernel
theorem dX6_waysFrom_96 : decode cX6_waysFrom 96 = .ok (.invokevirtual 50, 3) := by decide +kernel
theorem dX6_waysFrom_99 : decode cX6_waysFrom 99 = .ok (.iadd, 1) := by decide +kernel
theorem dX6_waysFrom_100 : decode cX6_waysFrom 100 = .ok (.bipush 8, 2) := by decide +kernel
theorem dX6_waysFrom_102 : decode cX6_waysFrom 102 = .ok (.imul, 1) := by decide +kernel
theorem dX6_waysFrom_103 : decode cX6_waysFrom 103 = .ok (.iload 7, 2) := by decide +kernel
theorem dX6_waysFrom_105 : decode cX6_waysFrom 105 = .ok (.iadd, 1) := by decide +kernel
theorem dX6_waysFrom_106 : decode cX6_waysFrom 106 = .ok (.laload, 1) := by decide +kernel
theorem dX6_waysFrom_107 : decode cX6_waysFrom 107 = .ok (.ladd, 1) := by decide +kernel
theorem dX6_waysFrom_108 : decode cX6_waysFrom 108 = .ok (.lstore 5, 2) := by decide +kernel
theorem dX6_waysFrom_110 : decode cX6_waysFrom 110 = .ok (.iinc 7 1, 3) := by decide +kernel
theorem dX6_waysFrom_113 : decode cX6_waysFrom 113 = .ok (.goto (-62), 3) := by decide +kernel
theorem dX6_waysFrom_116 : decode cX6_waysFrom 116 = .ok (.lload 5, 2) := by decide +kernel
theorem dX6_waysFrom_118 : decode cX6_waysFrom 118 = .ok (.lreturn, 1) := by decide +kernel
def zX6_waysFrom (Qr : Option PV → Mem → Prop) : XZ := (RX6, 2, 45, 8, some FieldType.long, Qr)
noncomputable def fX6_waysFrom_b51 (F : Mem) : Nat → Nat → Nat → Int → Int → Int → Int → Int → Option Int
  | 0, _, _, _, _, _, _, _ => none
  | n + 1, o, x1, x2, x3, x4, x5, x7 =>
    if x1 = 0 then none else
    if (F x1 0).toNat = 0 then none else
    if (F (((F x1 0).toNat) + 1) 3) ≤ x7 then
      some x5
    else
      if x7 = x3 then
        fX6_waysFrom_b51 F n o x1 x2 x3 x4 x5 (xw (x7 + 1))
      else
        if x1 = 0 then none else
        (fX1_going x1 x2 x3 x7 F).bind fun r7 =>
        if r7 ≠ x4 then
          fX6_waysFrom_b51 F n o x1 x2 x3 x4 x5 (xw (x7 + 1))
        else
          if x1 = 0 then none else
          (fX1_timeOf x1 x3 x7 F).bind fun r11 =>
          if (0 : Int) ≤ (xw ((xw ((xw (x2 + r11)) * 8)) + x7)) ∧ (xw ((xw ((xw (x2 + r11)) * 8)) + x7)) < (alen (o + 5) : Int) then
            fX6_waysFrom_b51 F n o x1 x2 x3 x4 (xwl (x5 + (F (o + 5) (xw ((xw ((xw (x2 + r11)) * 8)) + x7)).toNat))) (xw (x7 + 1))
          else none
noncomputable def fX6_waysFrom (o : Nat) (x1 : Nat) (x2 : Int) (x3 : Int) (F : Mem) : Option Int :=
  if x1 = 0 then none else
  (fX1_scoreAt x1 x2 x3 F).bind fun r2 =>
  if (fX1_isWay r2) ≠ 0 then
    if x1 = 0 then none else
    (fX1_staying x1 x2 x3 F).bind fun r6 =>
    if r6 ≠ r2 then
      fX6_waysFrom_b51 F FU o x1 x2 x3 r2 0 0
    else
      if (0 : Int) ≤ (xw ((xw ((xw (x2 + 1)) * 8)) + x3)) ∧ (xw ((xw ((xw (x2 + 1)) * 8)) + x3)) < (alen (o + 5) : Int) then
        fX6_waysFrom_b51 F FU o x1 x2 x3 r2 (F (o + 5) (xw ((xw ((xw (x2 + 1)) * 8)) + x3)).toNat) 0
      else none
  else
    some 0
theorem fX6_waysFrom_b51_ok {Qr : Option PV → Mem → Prop}  (F : Mem) : ∀ (n : Nat) (o : Nat) (x1 : Nat) (x2 : Int) (x3 : Int) (x4 : Int) (x5 : Int) (x7 : Int) (res : Int) (ho : isK o 6) (hx1 : x1 = 0 ∨ isK x1 1), fX6_waysFrom_b51 F n o x1 x2 x3 x4 x5 x7 = some res → Qr (some (vL res)) F → PR cX6_waysFrom (zX6_waysFrom Qr) 51 [(0, vR o), (1, vR x1), (2, vI x2), (3, vI x3), (4, vI x4), (5, vL x5), (7, vI x7)] [] F := by
  intro n
  induction n with
  | zero => intro o x1 x2 x3 x4 x5 x7 res ho hx1 h hq; exact nomatch (show (none : Option _) = some _ from h)
  | succ n ih =>
    intro o x1 x2 x3 x4 x5 x7 res ho hx1 h hq
    refine s_iload (j := 6) dX6_waysFrom_51 rfl ?_
    refine s_aload_n (j := 1) dX6_waysFrom_53 rfl rfl ?_
    obtain ⟨hn1, h⟩ := gdn h
    refine s_getM dX6_waysFrom_54 flX6_32 (hx1.resolve_left hn1) (fun hm2 => ?_)
    have hm2 : _ = 0 ∨ isK ((F x1 0).toNat) 7 := hm2
    obtain ⟨hn3, h⟩ := gdn h
    refine s_getR dX6_waysFrom_57 flX6_68 (hm2.resolve_left hn3) ?_
    refine s_getI dX6_waysFrom_60 flX6_72 (trX7_5 (hm2.resolve_left hn3)) ?_
    refine s_icmp_ge (tgt := 116) dX6_waysFrom_63 rfl (fun hc4 => ?_) (fun hc4 => ?_)
    · have h := ifp hc4 h
      refine s_lload (j := 5) dX6_waysFrom_116 rfl ?_
      have h := Option.some.inj h
      subst h
      exact s_lreturn dX6_waysFrom_118 rfl hq
    · have h := ifn hc4 h
      refine s_iload (j := 6) dX6_waysFrom_66 rfl ?_
      refine s_iload_n (j := 3) dX6_waysFrom_68 rfl rfl ?_
      refine s_icmp_eq (tgt := 110) dX6_waysFrom_69 rfl (fun hc5 => ?_) (fun hc5 => ?_)
      · have h := ifp hc5 h
        refine s_iinc (ls' := [(7, vI (xw (x7 + 1))), (0, vR o), (1, vR x1), (2, vI x2), (3, vI x3), (4, vI x4), (5, vL x5)]) (j := 6) dX6_waysFrom_110 rfl (Nat.le_of_ble_eq_true rfl) rfl ?_
        refine s_goto (tgt := 51) dX6_waysFrom_113 rfl ?_
        exact s_sub (ks := [1, 2, 3, 4, 5, 6, 0]) rfl (ih o x1 x2 x3 x4 x5 (xw (x7 + 1)) _ ho hx1 h hq)
      · have h := ifn hc5 h
        refine s_aload_n (j := 1) dX6_waysFrom_72 rfl rfl ?_
        refine s_iload_n (j := 2) dX6_waysFrom_73 rfl rfl ?_
        refine s_iload_n (j := 3) dX6_waysFrom_74 rfl rfl ?_
        refine s_iload (j := 6) dX6_waysFrom_75 rfl ?_
        obtain ⟨hn6, h⟩ := gdn h
        obtain ⟨r7, hv8, h⟩ := bnd h
        refine s_callV (As := [vI x2, vI x3, vI x7]) (rest := []) (r := (some (vI r7))) (F' := F) dX6_waysFrom_77 (clX6_77 (Nat.le_of_ble_eq_true rfl) (Nat.le_of_ble_eq_true rfl)) (hx1.resolve_left hn6) rfl ⟨_, _, _, _, _, rfl, (hx1.resolve_left hn6), hv8, rfl, rfl⟩ rfl (Nat.le_of_ble_eq_true rfl) ?_
        refine s_iload (j := 4) dX6_waysFrom_80 rfl ?_
        refine s_icmp_ne (tgt := 110) dX6_waysFrom_82 rfl (fun hc9 => ?_) (fun hc9 => ?_)
        · have h := ifp hc9 h
          refine s_iinc (ls' := [(7, vI (xw (x7 + 1))), (0, vR o), (1, vR x1), (2, vI x2), (3, vI x3), (4, vI x4), (5, vL x5)]) (j := 6) dX6_waysFrom_110 rfl (Nat.le_of_ble_eq_true rfl) rfl ?_
          refine s_goto (tgt := 51) dX6_waysFrom_113 rfl ?_
          exact s_sub (ks := [1, 2, 3, 4, 5, 6, 0]) rfl (ih o x1 x2 x3 x4 x5 (xw (x7 + 1)) _ ho hx1 h hq)
        · have h := ifn hc9 h
          refine s_lload (j := 5) dX6_waysFrom_85 rfl ?_
          refine s_aload_n (j := 0) dX6_waysFrom_87 rfl rfl ?_
          refine s_getR dX6_waysFrom_88 flX6_28 ho ?_
          refine s_iload_n (j := 2) dX6_waysFrom_91 rfl rfl ?_
          refine s_aload_n (j := 1) dX6_waysFrom_92 rfl rfl ?_
          refine s_iload_n (j := 3) dX6_waysFrom_93 rfl rfl ?_
          refine s_iload (j := 6) dX6_waysFrom_94 rfl ?_
          obtain ⟨hn10, h⟩ := gdn h
          obtain ⟨r11, hv12, h⟩ := bnd h
          refine s_callV (As := [vI x3, vI x7]) (rest := [vI x2, vR (o + 5), vL x5]) (r := (some (vI r11))) (F' := F) dX6_waysFrom_96 (clX6_50 (Nat.le_of_ble_eq_true rfl) (Nat.le_of_ble_eq_true rfl)) (hx1.resolve_left hn10) rfl ⟨_, _, _, _, rfl, (hx1.resolve_left hn10), hv12, rfl, rfl⟩ rfl (Nat.le_of_ble_eq_true rfl) ?_
          refine s_iadd dX6_waysFrom_99 ?_
          refine s_bipush dX6_waysFrom_100 rfl (cin rfl) ?_
          refine s_imul dX6_waysFrom_102 ?_
          refine s_iload (j := 6) dX6_waysFrom_103 rfl ?_
          refine s_iadd dX6_waysFrom_105 ?_
          obtain ⟨hb13, h⟩ := gd h
          refine s_laload dX6_waysFrom_106 (trX6_5 ho) hb13.1 hb13.2 ?_
          refine s_ladd dX6_waysFrom_107 ?_
          refine s_lstore (ls' := [(5, vL (xwl (x5 + (F (o + 5) (xw ((xw ((xw (x2 + r11)) * 8)) + x7)).toNat)))), (0, vR o), (1, vR x1), (2, vI x2), (3, vI x3), (4, vI x4), (7, vI x7)]) dX6_waysFrom_108 (Nat.le_of_ble_eq_true rfl) rfl ?_
          refine s_iinc (j := 6) dX6_waysFrom_110 rfl (Nat.le_of_ble_eq_true rfl) rfl ?_
          refine s_goto (tgt := 51) dX6_waysFrom_113 rfl ?_
          exact s_sub (ks := [2, 3, 4, 5, 6, 1, 0]) rfl (ih o x1 x2 x3 x4 (xwl (x5 + (F (o + 5) (xw ((xw ((xw (x2 + r11)) * 8)) + x7)).toNat))) (xw (x7 + 1)) _ ho hx1 h hq)
theorem fX6_waysFrom_ok {Qr : Option PV → Mem → Prop} : ∀ (o : Nat) (x1 : Nat) (x2 : Int) (x3 : Int) (F : Mem) (res : Int) (ho : isK o 6) (hx1 : x1 = 0 ∨ isK x1 1), fX6_waysFrom o x1 x2 x3 F = some res → Qr (some (vL res)) F → PR cX6_waysFrom (zX6_waysFrom Qr) 0 [(0, vR o), (1, vR x1), (2, vI x2), (3, vI x3)] [] F := by
  intro o x1 x2 x3 F res ho hx1 h hq
  refine s_aload_n (j := 1) dX6_waysFrom_0 rfl rfl ?_
  refine s_iload_n (j := 2) dX6_waysFrom_1 rfl rfl ?_
  refine s_iload_n (j := 3) dX6_waysFrom_2 rfl rfl ?_
  obtain ⟨hn1, h⟩ := gdn h
  obtain ⟨r2, hv3, h⟩ := bnd h
  refine s_callV (As := [vI x2, vI x3]) (rest := []) (r := (some (vI r2))) (F' := F) dX6_waysFrom_3 (clX6_62 (Nat.le_of_ble_eq_true rfl) (Nat.le_of_ble_eq_true rfl)) (hx1.resolve_left hn1) rfl ⟨_, _, _, _, rfl, (hx1.resolve_left hn1), hv3, rfl, rfl⟩ rfl (Nat.le_of_ble_eq_true rfl) ?_
  refine s_istore (ls' := [(4, vI r2), (0, vR o), (1, vR x1), (2, vI x2), (3, vI x3)]) dX6_waysFrom_6 (Nat.le_of_ble_eq_true rfl) rfl ?_
  refine s_iload (j := 0) dX6_waysFrom_8 rfl ?_
  refine s_callS (As := [vI r2]) (rest := []) (r := (some (vI (fX1_isWay r2)))) (F' := F) dX6_waysFrom_10 (clX6_110 (Nat.le_of_ble_eq_true rfl) (Nat.le_of_ble_eq_true rfl)) rfl ⟨_, _, rfl, rfl, rfl, rfl⟩ rfl (Nat.le_of_ble_eq_true rfl) ?_
  refine s_if_ne (tgt := 18) dX6_waysFrom_13 rfl (fun hc4 => ?_) (fun hc4 => ?_)
  · have h := ifp hc4 h
    refine s_aload_n (j := 2) dX6_waysFrom_18 rfl rfl ?_
    refine s_iload_n (j := 3) dX6_waysFrom_19 rfl rfl ?_
    refine s_iload_n (j := 4) dX6_waysFrom_20 rfl rfl ?_
    obtain ⟨hn5, h⟩ := gdn h
    obtain ⟨r6, hv7, h⟩ := bnd h
    refine s_callV (As := [vI x2, vI x3]) (rest := []) (r := (some (vI r6))) (F' := F) dX6_waysFrom_21 (clX6_65 (Nat.le_of_ble_eq_true rfl) (Nat.le_of_ble_eq_true rfl)) (hx1.resolve_left hn5) rfl ⟨_, _, _, _, rfl, (hx1.resolve_left hn5), hv7, rfl, rfl⟩ rfl (Nat.le_of_ble_eq_true rfl) ?_
    refine s_iload (j := 0) dX6_waysFrom_24 rfl ?_
    refine s_icmp_ne (tgt := 45) dX6_waysFrom_26 rfl (fun hc8 => ?_) (fun hc8 => ?_)
    · have h := ifp hc8 h
      refine s_lconst (z := 0) dX6_waysFrom_45 rfl (cin64 rfl) ?_
      refine s_lstore (ls' := [(5, vL 0), (4, vI r2), (0, vR o), (1, vR x1), (2, vI x2), (3, vI x3)]) dX6_waysFrom_46 (Nat.le_of_ble_eq_true rfl) rfl ?_
      refine s_iconst dX6_waysFrom_48 (cin rfl) ?_
      refine s_istore dX6_waysFrom_49 (Nat.le_of_ble_eq_true rfl) rfl ?_
      exact s_sub (ks := [3, 4, 5, 6, 2, 1, 0]) rfl (fX6_waysFrom_b51_ok F FU o x1 x2 x3 r2 0 0 _ ho hx1 h hq)
    · have h := ifn hc8 h
      refine s_aload_n (j := 1) dX6_waysFrom_29 rfl rfl ?_
      refine s_getR dX6_waysFrom_30 flX6_28 ho ?_
      refine s_iload_n (j := 3) dX6_waysFrom_33 rfl rfl ?_
      refine s_iconst dX6_waysFrom_34 (cin rfl) ?_
      refine s_iadd dX6_waysFrom_35 ?_
      refine s_bipush dX6_waysFrom_36 rfl (cin rfl) ?_
      refine s_imul dX6_waysFrom_38 ?_
      refine s_iload_n (j := 4) dX6_waysFrom_39 rfl rfl ?_
      refine s_iadd dX6_waysFrom_40 ?_
      obtain ⟨hb9, h⟩ := gd h
      refine s_laload dX6_waysFrom_41 (trX6_5 ho) hb9.1 hb9.2 ?_
      refine s_goto (tgt := 46) dX6_waysFrom_42 rfl ?_
      refine s_lstore (ls' := [(5, vL (F (o + 5) (xw ((xw ((xw (x2 + 1)) * 8)) + x3)).toNat)), (4, vI r2), (0, vR o), (1, vR x1), (2, vI x2), (3, vI x3)]) dX6_waysFrom_46 (Nat.le_of_ble_eq_true rfl) rfl ?_
      refine s_iconst dX6_waysFrom_48 (cin rfl) ?_
      refine s_istore dX6_waysFrom_49 (Nat.le_of_ble_eq_true rfl) rfl ?_
      exact s_sub (ks := [3, 4, 5, 6, 2, 1, 0]) rfl (fX6_waysFrom_b51_ok F FU o x1 x2 x3 r2 (F (o + 5) (xw ((xw ((xw (x2 + 1)) * 8)) + x3)).toNat) 0 _ ho hx1 h hq)
  · have h := ifn hc4 h
    refine s_lconst (z := 0) dX6_waysFrom_16 rfl (cin64 rfl) ?_
    have h := Option.some.inj h
    subst h
    exact s_lreturn dX6_waysFrom_17 rfl hq
def gX6_waysFrom : XG := fun As F r F' => ∃ o : Nat, ∃ x1 : Nat, ∃ x2 : Int, ∃ x3 : Int, ∃ res : Int, As = [vR o, vR x1, vI x2, vI x3] ∧ isK o 6 ∧ (x1 = 0 ∨ isK x1 1) ∧ fX6_waysFrom o x1 x2 x3 F = some res ∧ r = some (vL res) ∧ F' = F
theorem ctX6_waysFrom : xCT yX6_waysFrom cX6_waysFrom 8 (some FieldType.long) 2 45 gX6_waysFrom := xmet (by decide +kernel) (fun As F r F' hg => by obtain ⟨o, x1, x2, x3, res, rfl, ho, hx1, h, rfl, rfl⟩ := hg; exact Nat.le_of_ble_eq_true rfl) (fun As F r F' hg => by obtain ⟨o, x1, x2, x3, res, rfl, ho, hx1, h, rfl, rfl⟩ := hg; exact fX6_waysFrom_ok o x1 x2 x3 _ _ ho hx1 h ⟨rfl, rfl⟩)
theorem mcX6_waysFrom : Cond.code yX6_waysFrom cX6_waysFrom 8 (some FieldType.long) ∈ xw_T ∧ Cond.initialized yX6_waysFrom.cls ∈ xw_T ∧ Cond.instanceMethod yX6_waysFrom ∈ xw_T ∧ Cond.selects yX6_waysFrom.cls yX6_waysFrom yX6_waysFrom ∈ xw_T := ⟨(xinT 1260 (by decide +kernel) (by decide +kernel)), (xinT 125 (by decide +kernel) (by decide +kernel)), (xinT 1259 (by decide +kernel) (by decide +kernel)), (xinT 38 (by decide +kernel) (by decide +kernel))⟩
theorem clX6_100 {fr lo : Nat} (h1 : 2 + 1 ≤ fr) (h2 : 8 + (8 + 11) + 45 ≤ lo) : xCall RX6 fr lo 0 100 6 3 gX6_waysFrom := ⟨_, _, _, _, _, _, ctX6_waysFrom, h1, h2, mcX6_waysFrom.1, (xinT 1257 (by decide +kernel) (by decide +kernel)), mcX6_waysFrom.2.1, ⟨by decide +kernel, by decide +kernel, by decide +kernel⟩, by rw [if_pos rfl]; exact ⟨mcX6_waysFrom.2.2.1, mcX6_waysFrom.2.2.2, _, _, rfl⟩⟩
theorem dX6_countWays_0 : decode cX6_countWays 0 = .ok (.iconst 0, 1) := by decide +kernel
theorem dX6_countWays_1 : decode cX6_countWays 1 = .ok (.istore_n 2, 1) := by decide +kernel
theorem dX6_countWays_2 : decode cX6_countWays 2 = .ok (.iload_n 2, 1) := by decide +kernel
theorem dX6_countWays_3 : decode cX6_countWays 3 = .ok (.aload_n 1, 1) := by decide +kernel
theorem dX6_countWays_4 : decode cX6_countWays 4 = .ok (.getfield 32, 3) := by decide +kernel
theorem dX6_countWays_7 : decode cX6_countWays 7 = .ok (.getfield 68, 3) := by decide +kernel
theorem dX6_countWays_10 : decode cX6_countWays 10 = .ok (.getfield 72, 3) := by decide +kernel
theorem dX6_countWays_13 : decode cX6_countWays 13 = .ok (.if_icmp .ge 24, 3) := by decide +kernel
theorem dX6_countWays_16 : decode cX6_countWays 16 = .ok (.aload_n 0, 1) := by decide +kernel
theorem dX6_countWays_17 : decode cX6_countWays 17 = .ok (.getfield 28, 3) := by decide +kernel
theorem dX6_countWays_20 : decode cX6_countWays 20 = .ok (.aload_n 1, 1) := by decide +kernel
theorem dX6_countWays_21 : decode cX6_countWays 21 = .ok (.getfield 43, 3) := by decide +kernel
theorem dX6_countWays_24 : decode cX6_countWays 24 = .ok (.bipush 8, 2) := by decide +kernel
theorem dX6_countWays_26 : decode cX6_countWays 26 = .ok (.imul, 1) := by decide +kernel
theorem dX6_countWays_27 : decode cX6_countWays 27 = .ok (.iload_n 2, 1) := by decide +kernel
theorem dX6_countWays_28 : decode cX6_countWays 28 = .ok (.iadd, 1) := by decide +kernel
theorem dX6_countWays_29 : decode cX6_countWays 29 = .ok (.lconst 1, 1) := by decide +kernel
theorem dX6_countWays_30 : decode cX6_countWays 30 = .ok (.lastore, 1) := by decide +kernel
theorem dX6_countWays_31 : decode cX6_countWays 31 = .ok (.iinc 2 1, 3) := by decide +kernel
theorem dX6_countWays_34 : decode cX6_countWays 34 = .ok (.goto (-32), 3) := by decide +kernel
theorem dX6_countWays_37 : decode cX6_countWays 37 = .ok (.aload_n 1, 1) := by decide +kernel
theorem dX6_countWays_38 : decode cX6_countWays 38 = .ok (.getfield 43, 3) := by decide +kernel
theorem dX6_countWays_41 : decode cX6_countWays 41 = .ok (.iconst 1, 1) := by decide +kernel
theorem dX6_countWays_42 : decode cX6_countWays 42 = .ok (.isub, 1) := by decide +kernel
theorem dX6_countWays_43 : decode cX6_countWays 43 = .ok (.istore_n 2, 1) := by decide +kernel
theorem dX6_countWays_44 : decode cX6_countWays 44 = .ok (.iload_n 2, 1) := by decide +kernel
theorem dX6_countWays_45 : decode cX6_countWays 45 = .ok (.ifCond .lt 55, 3) := by decide +kernel
theorem dX6_countWays_48 : decode cX6_countWays 48 = .ok (.iconst 0, 1) := by decide +kernel
theorem dX6_countWays_49 : decode cX6_countWays 49 = .ok (.istore_n 3, 1) := by decide +kernel
theorem dX6_countWays_50 : decode cX6_countWays 50 = .ok (.iload_n 3, 1) := by decide +kernel
theorem dX6_countWays_51 : decode cX6_countWays 51 = .ok (.aload_n 1, 1) := by decide +kernel
theorem dX6_countWays_52 : decode cX6_countWays 52 = .ok (.getfield 32, 3) := by decide +kernel
theorem dX6_countWays_55 : decode cX6_countWays 55 = .ok (.getfield 68, 3) := by decide +kernel
theorem dX6_countWays_58 : decode cX6_countWays 58 = .ok (.getfield 72, 3) := by decide +kernel
theorem dX6_countWays_61 : decode cX6_countWays 61 = .ok (.if_icmp .ge 33, 3) := by decide +kernel
theorem dX6_countWays_64 : decode cX6_countWays 64 = .ok (.aload_n 0, 1) := by decide +kernel
theorem dX6_countWays_65 : decode cX6_countWays 65 = .ok (.getfield 28, 3) := by decide +kernel
theorem dX6_countWays_68 : decode cX6_countWays 68 = .ok (.iload_n 2, 1) := by decide +kernel
theorem dX6_countWays_69 : decode cX6_countWays 69 = .ok (.bipush 8, 2) := by decide +kernel
theorem dX6_countWays_71 : decode cX6_countWays 71 = .ok (.imul, 1) := by decide +kernel
theorem dX6_countWays_72 : decode cX6_countWays 72 = .ok (.iload_n 3, 1) := by decide +kernel
theorem dX6_countWays_73 : decode cX6_countWays 73 = .ok (.iadd, 1) := by decide +kernel
theorem dX6_countWays_74 : decode cX6_countWays 74 = .ok (.aload_n 0, 1) := by decide +kernel
theorem dX6_countWays_75 : decode cX6_countWays 75 = .ok (.aload_n 1, 1) := by decide +kernel
theorem dX6_countWays_76 : decode cX6_countWays 76 = .ok (.iload_n 2, 1) := by decide +kernel
theorem dX6_countWays_77 : decode cX6_countWays 77 = .ok (.iload_n 3, 1) := by decide +kernel
theorem dX6_countWays_78 : decode cX6_countWays 78 = .ok (.invokevirtual 100, 3) := by decide +kernel
theorem dX6_countWays_81 : decode cX6_countWays 81 = .ok (.ldc2_w 104, 3) := by decide +kernel
theorem dX6_countWays_84 : decode cX6_countWays 84 = .ok (.invokestatic 106, 3) := by decide +kernel
theorem dX6_countWays_87 : decode cX6_countWays 87 = .ok (.lastore, 1) := by decide +kernel
theorem dX6_countWays_88 : decode cX6_countWays 88 = .ok (.iinc 3 1, 3) := by decide +kernel
theorem dX6_countWays_91 : decode cX6_countWays 91 = .ok (.goto (-41), 3) := by decide +kernel
theorem dX6_countWays_94 : decode cX6_countWays 94 = .ok (.iinc 2 (-1), 3) := by decide +kernel
theorem dX6_countWays_97 : decode cX6_countWays 97 = .ok (.goto (-53), 3) := by decide +kernel
theorem dX6_countWays_100 : decode cX6_countWays 100 = .ok (.aload_n 0, 1) := by decide +kernel
theorem dX6_countWays_101 : decode cX6_countWays 101 = .ok (.getfield 28, 3) := by decide +kernel
theorem dX6_countWays_104 : decode cX6_countWays 104 = .ok (.aload_n 1, 1) := by decide +kernel
theorem dX6_countWays_105 : decode cX6_countWays 105 = .ok (.getfield 32, 3) := by decide +kernel
theorem dX6_countWays_108 : decode cX6_countWays 108 = .ok (.getfield 38, 3) := by decide +kernel
theorem dX6_countWays_111 : decode cX6_countWays 111 = .ok (.laload, 1) := by decide +kernel
theorem dX6_countWays_112 : decode cX6_countWays 112 = .ok (.lreturn, 1) := by decide +kernel
def zX6_countWays (Qr : Option PV → Mem → Prop) : XZ := (RX6, 3, 72, 4, some FieldType.long, Qr)
noncomputable def fX6_countWays_b50 (k44 : Nat → Nat → Int → Mem → Option (Int × Mem)) : Nat → Nat → Nat → Int → Int → Mem → Option (Int × Mem)
  | 0, _, _, _, _, _ => none
  | n + 1, o, x1, x2, x3, F =>
    if x1 = 0 then none else
    if (F x1 0).toNat = 0 then none else
    if (F (((F x1 0).toNat) + 1) 3) ≤ x3 then
      k44 o x1 (xw (x2 + (-1))) F
    else
      (fX6_waysFrom o x1 x2 x3 F).bind fun r5 =>
      if (0 : Int) ≤ (xw ((xw (x2 * 8)) + x3)) ∧ (xw ((xw (x2 * 8)) + x3)) < (alen (o + 5) : Int) then
        fX6_countWays_b50 k44 n o x1 x2 (xw (x3 + 1)) (mset F (o + 5) (xw ((xw (x2 * 8)) + x3)).toNat (xmin r5 1000000000000))
      else none
noncomputable def fX6_countWays_b44 : Nat → Nat → Nat → Int → Mem → Option (Int × Mem)
  | 0, _, _, _, _ => none
  | n + 1, o, x1, x2, F =>
    if x2 < 0 then
      if x1 = 0 then none else
      if (F x1 0).toNat = 0 then none else
      if (0 : Int) ≤ (F ((F x1 0).toNat) 4) ∧ (F ((F x1 0).toNat) 4) < (alen (o + 5) : Int) then
        some (F (o + 5) (F ((F x1 0).toNat) 4).toNat, F)
      else none
    else
      fX6_countWays_b50 (fX6_countWays_b44 n) FU o x1 x2 0 F
noncomputable def fX6_countWays_b2 : Nat → Nat → Nat → Int → Mem → Option (Int × Mem)
  | 0, _, _, _, _ => none
  | n + 1, o, x1, x2, F =>
    if x1 = 0 then none else
    if (F x1 0).toNat = 0 then none else
    if (F (((F x1 0).toNat) + 1) 3) ≤ x2 then
      if x1 = 0 then none else
      fX6_countWays_b44 FU o x1 (xw ((F x1 4) - 1)) F
    else
      if x1 = 0 then none else
      if (0 : Int) ≤ (xw ((xw ((F x1 4) * 8)) + x2)) ∧ (xw ((xw ((F x1 4) * 8)) + x2)) < (alen (o + 5) : Int) then
        fX6_countWays_b2 n o x1 (xw (x2 + 1)) (mset F (o + 5) (xw ((xw ((F x1 4) * 8)) + x2)).toNat 1)
      else none
noncomputable def fX6_countWays (o : Nat) (x1 : Nat) (F : Mem) : Option (Int × Mem) :=
  fX6_countWays_b2 FU o x1 0 F
theorem fX6_countWays_b50_ok {Qr : Option PV → Mem → Prop}  (k44 : Nat → Nat → Int → Mem → Option (Int × Mem)) (hk44 : ∀ (o : Nat) (x1 : Nat) (x2 : Int) (F : Mem) (res : (Int × Mem)) (ho : isK o 6) (hx1 : x1 = 0 ∨ isK x1 1), k44 o x1 x2 F = some res → Qr (some (vL res.1)) res.2 → PR cX6_countWays (zX6_countWays Qr) 44 [(0, vR o), (1, vR x1), (2, vI x2)] [] F) : ∀ (n : Nat) (o : Nat) (x1 : Nat) (x2 : Int) (x3 : Int) (F : Mem) (res : (Int × Mem)) (ho : isK o 6) (hx1 : x1 = 0 ∨ isK x1 1), fX6_countWays_b50 k44 n o x1 x2 x3 F = some res → Qr (some (vL res.1)) res.2 → PR cX6_countWays (zX6_countWays Qr) 50 [(0, vR o), (1, vR x1), (2, vI x2), (3, vI x3)] [] F := by
  intro n
  induction n with
  | zero => intro o x1 x2 x3 F res ho hx1 h hq; exact nomatch (show (none : Option _) = some _ from h)
  | succ n ih =>
    intro o x1 x2 x3 F res ho hx1 h hq
    refine s_iload_n (j := 3) dX6_countWays_50 rfl rfl ?_
    refine s_aload_n (j := 1) dX6_countWays_51 rfl rfl ?_
    obtain ⟨hn1, h⟩ := gdn h
    refine s_getM dX6_countWays_52 flX6_32 (hx1.resolve_left hn1) (fun hm2 => ?_)
    have hm2 : _ = 0 ∨ isK ((F x1 0).toNat) 7 := hm2
    obtain ⟨hn3, h⟩ := gdn h
    refine s_getR dX6_countWays_55 flX6_68 (hm2.resolve_left hn3) ?_
    refine s_getI dX6_countWays_58 flX6_72 (trX7_5 (hm2.resolve_left hn3)) ?_
    refine s_icmp_ge (tgt := 94) dX6_countWays_61 rfl (fun hc4 => ?_) (fun hc4 => ?_)
    · have h := ifp hc4 h
      refine s_iinc (ls' := [(2, vI (xw (x2 + (-1)))), (0, vR o), (1, vR x1), (3, vI x3)]) (j := 2) dX6_countWays_94 rfl (Nat.le_of_ble_eq_true rfl) rfl ?_
      refine s_goto (tgt := 44) dX6_countWays_97 rfl ?_
      exact s_sub (ks := [1, 2, 0]) rfl (hk44 o x1 (xw (x2 + (-1))) F _ ho hx1 h hq)
    · have h := ifn hc4 h
      refine s_aload_n (j := 0) dX6_countWays_64 rfl rfl ?_
      refine s_getR dX6_countWays_65 flX6_28 ho ?_
      refine s_iload_n (j := 2) dX6_countWays_68 rfl rfl ?_
      refine s_bipush dX6_countWays_69 rfl (cin rfl) ?_
      refine s_imul dX6_countWays_71 ?_
      refine s_iload_n (j := 3) dX6_countWays_72 rfl rfl ?_
      refine s_iadd dX6_countWays_73 ?_
      refine s_aload_n (j := 0) dX6_countWays_74 rfl rfl ?_
      refine s_aload_n (j := 1) dX6_countWays_75 rfl rfl ?_
      refine s_iload_n (j := 2) dX6_countWays_76 rfl rfl ?_
      refine s_iload_n (j := 3) dX6_countWays_77 rfl rfl ?_
      obtain ⟨r5, hv6, h⟩ := bnd h
      refine s_callV (As := [vR x1, vI x2, vI x3]) (rest := [vI (xw ((xw (x2 * 8)) + x3)), vR (o + 5)]) (r := (some (vL r5))) (F' := F) dX6_countWays_78 (clX6_100 (Nat.le_of_ble_eq_true rfl) (Nat.le_of_ble_eq_true rfl)) ho rfl ⟨_, _, _, _, _, rfl, ho, hx1, hv6, rfl, rfl⟩ rfl (Nat.le_of_ble_eq_true rfl) ?_
      refine s_ldc2 dX6_countWays_81 kcX6_104 (cin64 rfl) ?_
      refine s_mminL dX6_countWays_84 mtX6_106 (Nat.le_of_ble_eq_true rfl) ?_
      obtain ⟨hb7, h⟩ := gd h
      refine s_lastore dX6_countWays_87 (trX6_5 ho) hb7.1 hb7.2 ?_
      refine s_iinc (ls' := [(3, vI (xw (x3 + 1))), (0, vR o), (1, vR x1), (2, vI x2)]) (j := 3) dX6_countWays_88 rfl (Nat.le_of_ble_eq_true rfl) rfl ?_
      refine s_goto (tgt := 50) dX6_countWays_91 rfl ?_
      exact s_sub (ks := [1, 2, 3, 0]) rfl (ih o x1 x2 (xw (x3 + 1)) (mset F (o + 5) (xw ((xw (x2 * 8)) + x3)).toNat (xmin r5 1000000000000)) _ ho hx1 h hq)
theorem fX6_countWays_b44_ok {Qr : Option PV → Mem → Prop}  : ∀ (n : Nat) (o : Nat) (x1 : Nat) (x2 : Int) (F : Mem) (res : (Int × Mem)) (ho : isK o 6) (hx1 : x1 = 0 ∨ isK x1 1), fX6_countWays_b44 n o x1 x2 F = some res → Qr (some (vL res.1)) res.2 → PR cX6_countWays (zX6_countWays Qr) 44 [(0, vR o), (1, vR x1), (2, vI x2)] [] F := by
  intro n
  induction n with
  | zero => intro o x1 x2 F res ho hx1 h hq; exact nomatch (show (none : Option _) = some _ from h)
  | succ n ih =>
    intro o x1 x2 F res ho hx1 h hq
    refine s_iload_n (j := 2) dX6_countWays_44 rfl rfl ?_
    refine s_if_lt (tgt := 100) dX6_countWays_45 rfl (fun hc1 => ?_) (fun hc1 => ?_)
    · have h := ifp hc1 h
      refine s_aload_n (j := 0) dX6_countWays_100 rfl rfl ?_
      refine s_getR dX6_countWays_101 flX6_28 ho ?_
      refine s_aload_n (j := 1) dX6_countWays_104 rfl rfl ?_
      obtain ⟨hn2, h⟩ := gdn h
      refine s_getM dX6_countWays_105 flX6_32 (hx1.resolve_left hn2) (fun hm3 => ?_)
      have hm3 : _ = 0 ∨ isK ((F x1 0).toNat) 7 := hm3
      obtain ⟨hn4, h⟩ := gdn h
      refine s_getI dX6_countWays_108 flX6_38 (hm3.resolve_left hn4) ?_
      obtain ⟨hb5, h⟩ := gd h
      refine s_laload dX6_countWays_111 (trX6_5 ho) hb5.1 hb5.2 ?_
      have h := Option.some.inj h
      subst h
      exact s_lreturn dX6_countWays_112 rfl hq
    · have h := ifn hc1 h
      refine s_iconst dX6_countWays_48 (cin rfl) ?_
      refine s_istore_n (ls' := [(3, vI 0), (0, vR o), (1, vR x1), (2, vI x2)]) dX6_countWays_49 rfl (Nat.le_of_ble_eq_true rfl) rfl ?_
      exact s_sub (ks := [1, 2, 3, 0]) rfl (fX6_countWays_b50_ok (fX6_countWays_b44 n) ih FU o x1 x2 0 F _ ho hx1 h hq)
theorem fX6_countWays_b2_ok {Qr : Option PV → Mem → Prop}  : ∀ (n : Nat) (o : Nat) (x1 : Nat) (x2 : Int) (F : Mem) (res : (Int × Mem)) (ho : isK o 6) (hx1 : x1 = 0 ∨ isK x1 1), fX6_countWays_b2 n o x1 x2 F = some res → Qr (some (vL res.1)) res.2 → PR cX6_countWays (zX6_countWays Qr) 2 [(0, vR o), (1, vR x1), (2, vI x2)] [] F := by
  intro n
  induction n with
  | zero => intro o x1 x2 F res ho hx1 h hq; exact nomatch (show (none : Option _) = some _ from h)
  | succ n ih =>
    intro o x1 x2 F res ho hx1 h hq
    refine s_iload_n (j := 2) dX6_countWays_2 rfl rfl ?_
    refine s_aload_n (j := 1) dX6_countWays_3 rfl rfl ?_
    obtain ⟨hn1, h⟩ := gdn h
    refine s_getM dX6_countWays_4 flX6_32 (hx1.resolve_left hn1) (fun hm2 => ?_)
    have hm2 : _ = 0 ∨ isK ((F x1 0).toNat) 7 := hm2
    obtain ⟨hn3, h⟩ := gdn h
    refine s_getR dX6_countWays_7 flX6_68 (hm2.resolve_left hn3) ?_
    refine s_getI dX6_countWays_10 flX6_72 (trX7_5 (hm2.resolve_left hn3)) ?_
    refine s_icmp_ge (tgt := 37) dX6_countWays_13 rfl (fun hc4 => ?_) (fun hc4 => ?_)
    · have h := ifp hc4 h
      refine s_aload_n (j := 1) dX6_countWays_37 rfl rfl ?_
      obtain ⟨hn5, h⟩ := gdn h
      refine s_getI dX6_countWays_38 flX6_43 (hx1.resolve_left hn5) ?_
      refine s_iconst dX6_countWays_41 (cin rfl) ?_
      refine s_isub dX6_countWays_42 ?_
      refine s_istore_n (ls' := [(2, vI (xw ((F x1 4) - 1))), (0, vR o), (1, vR x1)]) dX6_countWays_43 rfl (Nat.le_of_ble_eq_true rfl) rfl ?_
      exact s_sub (ks := [1, 2, 0]) rfl (fX6_countWays_b44_ok FU o x1 (xw ((F x1 4) - 1)) F _ ho hx1 h hq)
    · have h := ifn hc4 h
      refine s_aload_n (j := 0) dX6_countWays_16 rfl rfl ?_
      refine s_getR dX6_countWays_17 flX6_28 ho ?_
      refine s_aload_n (j := 1) dX6_countWays_20 rfl rfl ?_
      obtain ⟨hn6, h⟩ := gdn h
      refine s_getI dX6_countWays_21 flX6_43 (hx1.resolve_left hn6) ?_
      refine s_bipush dX6_countWays_24 rfl (cin rfl) ?_
      refine s_imul dX6_countWays_26 ?_
      refine s_iload_n (j := 2) dX6_countWays_27 rfl rfl ?_
      refine s_iadd dX6_countWays_28 ?_
      refine s_lconst (z := 1) dX6_countWays_29 rfl (cin64 rfl) ?_
      obtain ⟨hb7, h⟩ := gd h
      refine s_lastore dX6_countWays_30 (trX6_5 ho) hb7.1 hb7.2 ?_
      refine s_iinc (ls' := [(2, vI (xw (x2 + 1))), (0, vR o), (1, vR x1)]) (j := 2) dX6_countWays_31 rfl (Nat.le_of_ble_eq_true rfl) rfl ?_
      refine s_goto (tgt := 2) dX6_countWays_34 rfl ?_
      exact s_sub (ks := [1, 2, 0]) rfl (ih o x1 (xw (x2 + 1)) (mset F (o + 5) (xw ((xw ((F x1 4) * 8)) + x2)).toNat 1) _ ho hx1 h hq)
theorem fX6_countWays_ok {Qr : Option PV → Mem → Prop} : ∀ (o : Nat) (x1 : Nat) (F : Mem) (res : (Int × Mem)) (ho : isK o 6) (hx1 : x1 = 0 ∨ isK x1 1), fX6_countWays o x1 F = some res → Qr (some (vL res.1)) res.2 → PR cX6_countWays (zX6_countWays Qr) 0 [(0, vR o), (1, vR x1)] [] F := by
  intro o x1 F res ho hx1 h hq
  refine s_iconst dX6_countWays_0 (cin rfl) ?_
  refine s_istore_n (ls' := [(2, vI 0), (0, vR o), (1, vR x1)]) dX6_countWays_1 rfl (Nat.le_of_ble_eq_true rfl) rfl ?_
  exact s_sub (ks := [1, 2, 0]) rfl (fX6_countWays_b2_ok FU o x1 0 F _ ho hx1 h hq)
def gX6_countWays : XG := fun As F r F' => ∃ o : Nat, ∃ x1 : Nat, ∃ res : (Int × Mem), As = [vR o, vR x1] ∧ isK o 6 ∧ (x1 = 0 ∨ isK x1 1) ∧ fX6_countWays o x1 F = some res ∧ r = some (vL res.1) ∧ F' = res.2
theorem ctX6_countWays : xCT yX6_countWays cX6_countWays 4 (some FieldType.long) 3 72 gX6_countWays := xmet (by decide +kernel) (fun As F r F' hg => by obtain ⟨o, x1, res, rfl, ho, hx1, h, rfl, rfl⟩ := hg; exact Nat.le_of_ble_eq_true rfl) (fun As F r F' hg => by obtain ⟨o, x1, res, rfl, ho, hx1, h, rfl, rfl⟩ := hg; exact fX6_countWays_ok o x1 _ _ ho hx1 h ⟨rfl, rfl⟩)
theorem mcX6_countWays : Cond.code yX6_countWays cX6_countWays 4 (some FieldType.long) ∈ xw_T ∧ Cond.initialized yX6_countWays.cls ∈ xw_T ∧ Cond.instanceMethod yX6_countWays ∈ xw_T ∧ Cond.selects yX6_countWays.cls yX6_countWays yX6_countWays ∈ xw_T := ⟨(xinT 1256 (by decide +kernel) (by decide +kernel)), (xinT 125 (by decide +kernel) (by decide +kernel)), (xinT 1254 (by decide +kernel) (by decide +kernel)), (xinT 1255 (by decide +kernel) (by decide +kernel))⟩
theorem clX9_351 {fr lo : Nat} (h1 : 3 + 1 ≤ fr) (h2 : 8 + (4 + 11) + 72 ≤ lo) : xCall RX9 fr lo 0 351 6 1 gX6_countWays := ⟨_, _, _, _, _, _, ctX6_countWays, h1, h2, mcX6_countWays.1, (xinT 1253 (by decide +kernel) (by decide +kernel)), mcX6_countWays.2.1, ⟨by decide +kernel, by decide +kernel, by decide +kernel⟩, by rw [if_pos rfl]; exact ⟨mcX6_countWays.2.2.1, mcX6_countWays.2.2.2, _, _, rfl⟩⟩
