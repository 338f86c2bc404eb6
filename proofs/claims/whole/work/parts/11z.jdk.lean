theorem dJ0_length_8abf5_0 : decode cJ0_length_8abf5 0 = .ok (.aload_n 0, 1) := by decide +kernel
theorem dJ0_length_8abf5_1 : decode cJ0_length_8abf5 1 = .ok (.getfield 9, 3) := by decide +kernel
theorem dJ0_length_8abf5_4 : decode cJ0_length_8abf5 4 = .ok (.arraylength, 1) := by decide +kernel
theorem dJ0_length_8abf5_5 : decode cJ0_length_8abf5 5 = .ok (.aload_n 0, 1) := by decide +kernel
theorem dJ0_length_8abf5_6 : decode cJ0_length_8abf5 6 = .ok (.invokevirtual 335, 3) := by decide +kernel
theorem dJ0_length_8abf5_9 : decode cJ0_length_8abf5 9 = .ok (.ishr, 1) := by decide +kernel
theorem dJ0_length_8abf5_10 : decode cJ0_length_8abf5 10 = .ok (.ireturn, 1) := by decide +kernel
theorem dJ0_charAt_5068e_0 : decode cJ0_charAt_5068e 0 = .ok (.aload_n 0, 1) := by decide +kernel
theorem dJ0_charAt_5068e_1 : decode cJ0_charAt_5068e 1 = .ok (.invokevirtual 492, 3) := by decide +kernel
theorem dJ0_charAt_5068e_4 : decode cJ0_charAt_5068e 4 = .ok (.ifCond .eq 12, 3) := by decide +kernel
theorem dJ0_charAt_5068e_7 : decode cJ0_charAt_5068e 7 = .ok (.aload_n 0, 1) := by decide +kernel
theorem dJ0_charAt_5068e_8 : decode cJ0_charAt_5068e 8 = .ok (.getfield 9, 3) := by decide +kernel
theorem dJ0_charAt_5068e_11 : decode cJ0_charAt_5068e 11 = .ok (.iload_n 1, 1) := by decide +kernel
theorem dJ0_charAt_5068e_12 : decode cJ0_charAt_5068e 12 = .ok (.invokestatic 495, 3) := by decide +kernel
theorem dJ0_charAt_5068e_15 : decode cJ0_charAt_5068e 15 = .ok (.ireturn, 1) := by decide +kernel
theorem dJ0_charAt_5068e_16 : decode cJ0_charAt_5068e 16 = .ok (.aload_n 0, 1) := by decide +kernel
theorem dJ0_charAt_5068e_17 : decode cJ0_charAt_5068e 17 = .ok (.getfield 9, 3) := by decide +kernel
theorem dJ0_charAt_5068e_20 : decode cJ0_charAt_5068e 20 = .ok (.iload_n 1, 1) := by decide +kernel
theorem dJ0_charAt_5068e_21 : decode cJ0_charAt_5068e 21 = .ok (.invokestatic 498, 3) := by decide +kernel
theorem dJ0_charAt_5068e_24 : decode cJ0_charAt_5068e 24 = .ok (.ireturn, 1) := by decide +kernel
theorem dJ0_coder_7d493_0 : decode cJ0_coder_7d493 0 = .ok (.getstatic 38, 3) := by decide +kernel
theorem dJ0_coder_7d493_3 : decode cJ0_coder_7d493 3 = .ok (.ifCond .eq 10, 3) := by decide +kernel
theorem dJ0_coder_7d493_6 : decode cJ0_coder_7d493 6 = .ok (.aload_n 0, 1) := by decide +kernel
theorem dJ0_coder_7d493_7 : decode cJ0_coder_7d493 7 = .ok (.getfield 15, 3) := by decide +kernel
theorem dJ0_coder_7d493_10 : decode cJ0_coder_7d493 10 = .ok (.goto 4, 3) := by decide +kernel
theorem dJ0_coder_7d493_13 : decode cJ0_coder_7d493 13 = .ok (.iconst 1, 1) := by decide +kernel
theorem dJ0_coder_7d493_14 : decode cJ0_coder_7d493 14 = .ok (.ireturn, 1) := by decide +kernel
theorem dJ0_isLatin1_aae02_0 : decode cJ0_isLatin1_aae02 0 = .ok (.getstatic 38, 3) := by decide +kernel
theorem dJ0_isLatin1_aae02_3 : decode cJ0_isLatin1_aae02 3 = .ok (.ifCond .eq 14, 3) := by decide +kernel
theorem dJ0_isLatin1_aae02_6 : decode cJ0_isLatin1_aae02 6 = .ok (.aload_n 0, 1) := by decide +kernel
theorem dJ0_isLatin1_aae02_7 : decode cJ0_isLatin1_aae02 7 = .ok (.getfield 15, 3) := by decide +kernel
theorem dJ0_isLatin1_aae02_10 : decode cJ0_isLatin1_aae02 10 = .ok (.ifCond .ne 7, 3) := by decide +kernel
theorem dJ0_isLatin1_aae02_13 : decode cJ0_isLatin1_aae02 13 = .ok (.iconst 1, 1) := by decide +kernel
theorem dJ0_isLatin1_aae02_14 : decode cJ0_isLatin1_aae02 14 = .ok (.goto 4, 3) := by decide +kernel
theorem dJ0_isLatin1_aae02_17 : decode cJ0_isLatin1_aae02 17 = .ok (.iconst 0, 1) := by decide +kernel
theorem dJ0_isLatin1_aae02_18 : decode cJ0_isLatin1_aae02 18 = .ok (.ireturn, 1) := by decide +kernel
theorem dJ0_checkIndex_df160_0 : decode cJ0_checkIndex_df160 0 = .ok (.iload_n 0, 1) := by decide +kernel
theorem dJ0_checkIndex_df160_1 : decode cJ0_checkIndex_df160 1 = .ok (.iload_n 1, 1) := by decide +kernel
theorem dJ0_checkIndex_df160_2 : decode cJ0_checkIndex_df160 2 = .ok (.getstatic 1053, 3) := by decide +kernel
theorem dJ0_checkIndex_df160_5 : decode cJ0_checkIndex_df160 5 = .ok (.invokestatic 1059, 3) := by decide +kernel
theorem dJ0_checkIndex_df160_8 : decode cJ0_checkIndex_df160 8 = .ok (.pop, 1) := by decide +kernel
theorem dJ0_checkIndex_df160_9 : decode cJ0_checkIndex_df160 9 = .ok (.return_, 1) := by decide +kernel
theorem dJ1_charAt_3b067_0 : decode cJ1_charAt_3b067 0 = .ok (.iload_n 1, 1) := by decide +kernel
theorem dJ1_charAt_3b067_1 : decode cJ1_charAt_3b067 1 = .ok (.aload_n 0, 1) := by decide +kernel
theorem dJ1_charAt_3b067_2 : decode cJ1_charAt_3b067 2 = .ok (.arraylength, 1) := by decide +kernel
theorem dJ1_charAt_3b067_3 : decode cJ1_charAt_3b067 3 = .ok (.invokestatic 9, 3) := by decide +kernel
theorem dJ1_charAt_3b067_6 : decode cJ1_charAt_3b067 6 = .ok (.aload_n 0, 1) := by decide +kernel
theorem dJ1_charAt_3b067_7 : decode cJ1_charAt_3b067 7 = .ok (.iload_n 1, 1) := by decide +kernel
theorem dJ1_charAt_3b067_8 : decode cJ1_charAt_3b067 8 = .ok (.baload, 1) := by decide +kernel
theorem dJ1_charAt_3b067_9 : decode cJ1_charAt_3b067 9 = .ok (.sipush 255, 3) := by decide +kernel
theorem dJ1_charAt_3b067_12 : decode cJ1_charAt_3b067 12 = .ok (.iand, 1) := by decide +kernel
theorem dJ1_charAt_3b067_13 : decode cJ1_charAt_3b067 13 = .ok (.i2c, 1) := by decide +kernel
theorem dJ1_charAt_3b067_14 : decode cJ1_charAt_3b067 14 = .ok (.ireturn, 1) := by decide +kernel
theorem dJ3_checkIndex_8e157_0 : decode cJ3_checkIndex_8e157 0 = .ok (.iload_n 0, 1) := by decide +kernel
theorem dJ3_checkIndex_8e157_1 : decode cJ3_checkIndex_8e157 1 = .ok (.ifCond .lt 8, 3) := by decide +kernel
theorem dJ3_checkIndex_8e157_4 : decode cJ3_checkIndex_8e157 4 = .ok (.iload_n 0, 1) := by decide +kernel
theorem dJ3_checkIndex_8e157_5 : decode cJ3_checkIndex_8e157 5 = .ok (.iload_n 1, 1) := by decide +kernel
theorem dJ3_checkIndex_8e157_6 : decode cJ3_checkIndex_8e157 6 = .ok (.if_icmp .lt 10, 3) := by decide +kernel
theorem dJ3_checkIndex_8e157_9 : decode cJ3_checkIndex_8e157 9 = .ok (.aload_n 2, 1) := by decide +kernel
theorem dJ3_checkIndex_8e157_10 : decode cJ3_checkIndex_8e157 10 = .ok (.iload_n 0, 1) := by decide +kernel
theorem dJ3_checkIndex_8e157_11 : decode cJ3_checkIndex_8e157 11 = .ok (.iload_n 1, 1) := by decide +kernel
theorem dJ3_checkIndex_8e157_12 : decode cJ3_checkIndex_8e157 12 = .ok (.invokestatic 95, 3) := by decide +kernel
theorem dJ3_checkIndex_8e157_15 : decode cJ3_checkIndex_8e157 15 = .ok (.athrow, 1) := by decide +kernel
theorem dJ3_checkIndex_8e157_16 : decode cJ3_checkIndex_8e157 16 = .ok (.iload_n 0, 1) := by decide +kernel
theorem dJ3_checkIndex_8e157_17 : decode cJ3_checkIndex_8e157 17 = .ok (.ireturn, 1) := by decide +kernel
theorem isS_ite {c : Prop} {inst : Decidable c} {a b : Nat} (ha : isS a) (hb : isS b) : isS (@ite _ c inst a b) := by split; exact ha; exact hb
theorem kfJ_1053 : Cond.fieldLink "java/lang/String" 1053 "jdk/internal/util/Preconditions" "SIOOBE_FORMATTER" "Ljava/util/function/BiFunction;" ∈ xw_T := (xinT 641 (by decide +kernel) (by decide +kernel))
theorem kfJ_38 : Cond.fieldLink "java/lang/String" 38 "java/lang/String" "COMPACT_STRINGS" "Z" ∈ xw_T := (xinT 625 (by decide +kernel) (by decide +kernel))
theorem kfJ_15 : Cond.fieldLink "java/lang/String" 15 "java/lang/String" "coder" "B" ∈ xw_T := (xinT 1958 (by decide +kernel) (by decide +kernel))
theorem kfJ_9 : Cond.fieldLink "java/lang/String" 9 "java/lang/String" "value" "[B" ∈ xw_T := (xinT 1957 (by decide +kernel) (by decide +kernel))
def gJpck : XG := fun As F r F' => ∃ (i n : Int) (q : Nat), As = [vI i, vI n, vR q] ∧ 0 ≤ i ∧ i < n ∧ r = some (vI i) ∧ F' = F
theorem ctJ3_checkIndex_8e157 : xCT yJ3_checkIndex_8e157 cJ3_checkIndex_8e157 3 (some FieldType.int) 0 0 gJpck := xmet (by decide +kernel) (fun As F r F' hg => by obtain ⟨i, n, q, rfl, h0, h1, rfl, rfl⟩ := hg; exact Nat.le_of_ble_eq_true rfl) (fun As F r F' hg => by
  obtain ⟨i, n, q, rfl, h0, h1, rfl, rfl⟩ := hg
  refine s_iload_n (j := 0) dJ3_checkIndex_8e157_0 rfl rfl ?_
  refine s_if_lt (tgt := 9) dJ3_checkIndex_8e157_1 rfl (fun hc => absurd hc (by omega)) (fun _ => ?_)
  refine s_iload_n (j := 0) dJ3_checkIndex_8e157_4 rfl rfl ?_
  refine s_iload_n (j := 1) dJ3_checkIndex_8e157_5 rfl rfl ?_
  refine s_icmp_lt (tgt := 16) dJ3_checkIndex_8e157_6 rfl (fun _ => ?_) (fun hc => absurd h1 hc)
  refine s_iload_n (j := 0) dJ3_checkIndex_8e157_16 rfl rfl ?_
  exact s_ireturn dJ3_checkIndex_8e157_17 rfl ⟨rfl, rfl⟩)
theorem mcJ3_checkIndex_8e157 : Cond.code yJ3_checkIndex_8e157 cJ3_checkIndex_8e157 3 (some FieldType.int) ∈ xw_T ∧ Cond.initialized yJ3_checkIndex_8e157.cls ∈ xw_T ∧ Cond.static yJ3_checkIndex_8e157 ∈ xw_T := ⟨(xinT 645 (by decide +kernel) (by decide +kernel)), (xinT 130 (by decide +kernel) (by decide +kernel)), (xinT 644 (by decide +kernel) (by decide +kernel))⟩
theorem clJ_pck {fr lo : Nat} (h1 : 0 + 1 ≤ fr) (h2 : 8 + (3 + 11) + 0 ≤ lo) : xCall "java/lang/String" fr lo 1 1059 0 3 gJpck := ⟨_, _, _, _, _, _, ctJ3_checkIndex_8e157, h1, h2, mcJ3_checkIndex_8e157.1, (xinT 643 (by decide +kernel) (by decide +kernel)), mcJ3_checkIndex_8e157.2.1, ⟨by decide +kernel, by decide +kernel, by decide +kernel⟩, by rw [if_neg (by decide)]; exact mcJ3_checkIndex_8e157.2.2⟩
def gJck : XG := fun As F r F' => ∃ (i n : Int), As = [vI i, vI n] ∧ 0 ≤ i ∧ i < n ∧ r = none ∧ F' = F
theorem ctJ0_checkIndex_df160 : xCT yJ0_checkIndex_df160 cJ0_checkIndex_df160 2 (none) 1 22 gJck := xmet (by decide +kernel) (fun As F r F' hg => by obtain ⟨i, n, rfl, h0, h1, rfl, rfl⟩ := hg; exact Nat.le_of_ble_eq_true rfl) (fun As F r F' hg => by
  obtain ⟨i, n, rfl, h0, h1, rfl, rfl⟩ := hg
  refine s_iload_n (j := 0) dJ0_checkIndex_df160_0 rfl rfl ?_
  refine s_iload_n (j := 1) dJ0_checkIndex_df160_1 rfl rfl ?_
  refine s_getSF dJ0_checkIndex_df160_2 kfJ_1053 ?_ ?_
  · refine s_callS (As := [vI i, vI n, vR 0]) (rest := []) (r := some (vI i)) dJ0_checkIndex_df160_5 (clJ_pck (Nat.le_of_ble_eq_true rfl) (Nat.le_of_ble_eq_true rfl)) rfl ⟨_, _, _, rfl, h0, h1, rfl, rfl⟩ rfl (Nat.le_of_ble_eq_true rfl) ?_
    refine s_pop dJ0_checkIndex_df160_8 rfl ?_
    exact s_return dJ0_checkIndex_df160_9 rfl ⟨rfl, rfl⟩
  · refine s_callS (As := [vI i, vI n, vR 3000]) (rest := []) (r := some (vI i)) dJ0_checkIndex_df160_5 (clJ_pck (Nat.le_of_ble_eq_true rfl) (Nat.le_of_ble_eq_true rfl)) rfl ⟨_, _, _, rfl, h0, h1, rfl, rfl⟩ rfl (Nat.le_of_ble_eq_true rfl) ?_
    refine s_pop dJ0_checkIndex_df160_8 rfl ?_
    exact s_return dJ0_checkIndex_df160_9 rfl ⟨rfl, rfl⟩)
theorem mcJ0_checkIndex_df160 : Cond.code yJ0_checkIndex_df160 cJ0_checkIndex_df160 2 (none) ∈ xw_T ∧ Cond.initialized yJ0_checkIndex_df160.cls ∈ xw_T ∧ Cond.static yJ0_checkIndex_df160 ∈ xw_T := ⟨(xinT 640 (by decide +kernel) (by decide +kernel)), (xinT 128 (by decide +kernel) (by decide +kernel)), (xinT 639 (by decide +kernel) (by decide +kernel))⟩
theorem clJ_ck {fr lo : Nat} (h1 : 1 + 1 ≤ fr) (h2 : 8 + (2 + 11) + 22 ≤ lo) : xCall "java/lang/StringLatin1" fr lo 1 9 0 2 gJck := ⟨_, _, _, _, _, _, ctJ0_checkIndex_df160, h1, h2, mcJ0_checkIndex_df160.1, (xinT 638 (by decide +kernel) (by decide +kernel)), mcJ0_checkIndex_df160.2.1, ⟨by decide +kernel, by decide +kernel, by decide +kernel⟩, by rw [if_neg (by decide)]; exact mcJ0_checkIndex_df160.2.2⟩
theorem sch_all : ∀ j, j < nStr → ∀ k, k < strL.getD j 0 → xi2c (xand (((strB.getD j []).getD k 0).toInt) 255) = sch (1000 + j) (k : Int) ∧ 0 ≤ sch (1000 + j) (k : Int) ∧ sch (1000 + j) (k : Int) < 65536 := by decide +kernel
theorem sch_at {j : Nat} {i : Int} (hj : j < nStr) (h0 : 0 ≤ i) (h1 : i < ((strL.getD j 0 : Nat) : Int)) : xi2c (xand (((strB.getD j []).getD i.toNat 0).toInt) 255) = sch (1000 + j) i ∧ 0 ≤ sch (1000 + j) i ∧ sch (1000 + j) i < 65536 := by
  have h := sch_all j hj i.toNat (by omega)
  rw [show ((i.toNat : Nat) : Int) = i by omega] at h
  exact h
theorem slen_at (j : Nat) : slen (1000 + j) = ((strL.getD j 0 : Nat) : Int) := by unfold slen; rw [show 1000 + j - 1000 = j by omega]
def gJc1 : XG := fun As F r F' => ∃ (j : Nat) (i : Int), As = [vR (2000 + j), vI i] ∧ j < nStr ∧ 0 ≤ i ∧ i < ((strL.getD j 0 : Nat) : Int) ∧ r = some (vI (sch (1000 + j) i)) ∧ F' = F
theorem ctJ1_charAt_3b067 : xCT yJ1_charAt_3b067 cJ1_charAt_3b067 2 (some FieldType.char) 2 43 gJc1 := xmet (by decide +kernel) (fun As F r F' hg => by obtain ⟨j, i, rfl, hj, h0, h1, rfl, rfl⟩ := hg; exact Nat.le_of_ble_eq_true rfl) (fun As F r F' hg => by
  obtain ⟨j, i, rfl, hj, h0, h1, rfl, rfl⟩ := hg
  have hs := sch_at hj h0 h1
  refine s_iload_n (j := 1) dJ1_charAt_3b067_0 rfl rfl ?_
  refine s_aload_n (j := 0) dJ1_charAt_3b067_1 rfl rfl ?_
  refine s_alenS dJ1_charAt_3b067_2 hj ?_
  refine s_callS (As := [vI i, vI ((strL.getD j 0 : Nat) : Int)]) (rest := []) (r := none) dJ1_charAt_3b067_3 (clJ_ck (Nat.le_of_ble_eq_true rfl) (Nat.le_of_ble_eq_true rfl)) rfl ⟨_, _, rfl, h0, h1, rfl, rfl⟩ rfl (Nat.le_of_ble_eq_true rfl) ?_
  refine s_aload_n (j := 0) dJ1_charAt_3b067_6 rfl rfl ?_
  refine s_iload_n (j := 1) dJ1_charAt_3b067_7 rfl rfl ?_
  refine s_baloadS dJ1_charAt_3b067_8 hj h0 h1 ?_
  refine s_sipush (n := 255) dJ1_charAt_3b067_9 rfl (cin rfl) ?_
  refine s_iand dJ1_charAt_3b067_12 ?_
  refine s_i2c dJ1_charAt_3b067_13 ?_
  rw [hs.1]
  exact s_creturn dJ1_charAt_3b067_14 rfl hs.2 ⟨rfl, rfl⟩)
theorem mcJ1_charAt_3b067 : Cond.code yJ1_charAt_3b067 cJ1_charAt_3b067 2 (some FieldType.char) ∈ xw_T ∧ Cond.initialized yJ1_charAt_3b067.cls ∈ xw_T ∧ Cond.static yJ1_charAt_3b067 ∈ xw_T := ⟨(xinT 637 (by decide +kernel) (by decide +kernel)), (xinT 129 (by decide +kernel) (by decide +kernel)), (xinT 636 (by decide +kernel) (by decide +kernel))⟩
theorem clJ_c1 {fr lo : Nat} (h1 : 2 + 1 ≤ fr) (h2 : 8 + (2 + 11) + 43 ≤ lo) : xCall "java/lang/String" fr lo 1 495 0 2 gJc1 := ⟨_, _, _, _, _, _, ctJ1_charAt_3b067, h1, h2, mcJ1_charAt_3b067.1, (xinT 635 (by decide +kernel) (by decide +kernel)), mcJ1_charAt_3b067.2.1, ⟨by decide +kernel, by decide +kernel, by decide +kernel⟩, by rw [if_neg (by decide)]; exact mcJ1_charAt_3b067.2.2⟩
def gJcod : XG := fun As F r F' => ∃ (j : Nat), As = [vR (1000 + j)] ∧ j < nStr ∧ r = some (vI 0) ∧ F' = F
theorem ctJ0_coder_7d493 : xCT yJ0_coder_7d493 cJ0_coder_7d493 1 (some FieldType.byte) 0 0 gJcod := xmet (by decide +kernel) (fun As F r F' hg => by obtain ⟨j, rfl, hj, rfl, rfl⟩ := hg; exact Nat.le_of_ble_eq_true rfl) (fun As F r F' hg => by
  obtain ⟨j, rfl, hj, rfl, rfl⟩ := hg
  refine s_getCS dJ0_coder_7d493_0 kfJ_38 ?_
  refine s_if_eq (tgt := 13) dJ0_coder_7d493_3 rfl (fun hc => absurd hc (by decide)) (fun _ => ?_)
  refine s_aload_n (j := 0) dJ0_coder_7d493_6 rfl rfl ?_
  refine s_getSC dJ0_coder_7d493_7 kfJ_15 hj ?_
  refine s_goto (tgt := 14) dJ0_coder_7d493_10 rfl ?_
  exact s_breturn dJ0_coder_7d493_14 rfl ⟨rfl, rfl⟩)
theorem mcJ0_coder_7d493 : Cond.code yJ0_coder_7d493 cJ0_coder_7d493 1 (some FieldType.byte) ∈ xw_T ∧ Cond.initialized yJ0_coder_7d493.cls ∈ xw_T ∧ Cond.instanceMethod yJ0_coder_7d493 ∈ xw_T ∧ Cond.selects yJ0_coder_7d493.cls yJ0_coder_7d493 yJ0_coder_7d493 ∈ xw_T := ⟨(xinT 624 (by decide +kernel) (by decide +kernel)), (xinT 128 (by decide +kernel) (by decide +kernel)), (xinT 622 (by decide +kernel) (by decide +kernel)), (xinT 623 (by decide +kernel) (by decide +kernel))⟩
theorem clJ_cod {fr lo : Nat} (h1 : 0 + 1 ≤ fr) (h2 : 8 + (1 + 11) + 0 ≤ lo) : xCallT "java/lang/String" fr lo 335 0 gJcod := ⟨_, _, _, _, _, _, ctJ0_coder_7d493, h1, h2, mcJ0_coder_7d493.1, (xinT 621 (by decide +kernel) (by decide +kernel)), mcJ0_coder_7d493.2.1, ⟨by decide +kernel, by decide +kernel, by decide +kernel⟩, mcJ0_coder_7d493.2.2.1, mcJ0_coder_7d493.2.2.2, rfl⟩
def gJisl : XG := fun As F r F' => ∃ (j : Nat), As = [vR (1000 + j)] ∧ j < nStr ∧ r = some (vI 1) ∧ F' = F
theorem ctJ0_isLatin1_aae02 : xCT yJ0_isLatin1_aae02 cJ0_isLatin1_aae02 1 (some FieldType.boolean) 0 0 gJisl := xmet (by decide +kernel) (fun As F r F' hg => by obtain ⟨j, rfl, hj, rfl, rfl⟩ := hg; exact Nat.le_of_ble_eq_true rfl) (fun As F r F' hg => by
  obtain ⟨j, rfl, hj, rfl, rfl⟩ := hg
  refine s_getCS dJ0_isLatin1_aae02_0 kfJ_38 ?_
  refine s_if_eq (tgt := 17) dJ0_isLatin1_aae02_3 rfl (fun hc => absurd hc (by decide)) (fun _ => ?_)
  refine s_aload_n (j := 0) dJ0_isLatin1_aae02_6 rfl rfl ?_
  refine s_getSC dJ0_isLatin1_aae02_7 kfJ_15 hj ?_
  refine s_if_ne (tgt := 17) dJ0_isLatin1_aae02_10 rfl (fun hc => absurd rfl hc) (fun _ => ?_)
  refine s_iconst dJ0_isLatin1_aae02_13 (cin rfl) ?_
  refine s_goto (tgt := 18) dJ0_isLatin1_aae02_14 rfl ?_
  exact s_zreturn dJ0_isLatin1_aae02_18 rfl (Or.inr rfl) ⟨rfl, rfl⟩)
theorem mcJ0_isLatin1_aae02 : Cond.code yJ0_isLatin1_aae02 cJ0_isLatin1_aae02 1 (some FieldType.boolean) ∈ xw_T ∧ Cond.initialized yJ0_isLatin1_aae02.cls ∈ xw_T ∧ Cond.instanceMethod yJ0_isLatin1_aae02 ∈ xw_T ∧ Cond.selects yJ0_isLatin1_aae02.cls yJ0_isLatin1_aae02 yJ0_isLatin1_aae02 ∈ xw_T := ⟨(xinT 634 (by decide +kernel) (by decide +kernel)), (xinT 128 (by decide +kernel) (by decide +kernel)), (xinT 632 (by decide +kernel) (by decide +kernel)), (xinT 633 (by decide +kernel) (by decide +kernel))⟩
theorem clJ_isl {fr lo : Nat} (h1 : 0 + 1 ≤ fr) (h2 : 8 + (1 + 11) + 0 ≤ lo) : xCallT "java/lang/String" fr lo 492 0 gJisl := ⟨_, _, _, _, _, _, ctJ0_isLatin1_aae02, h1, h2, mcJ0_isLatin1_aae02.1, (xinT 631 (by decide +kernel) (by decide +kernel)), mcJ0_isLatin1_aae02.2.1, ⟨by decide +kernel, by decide +kernel, by decide +kernel⟩, mcJ0_isLatin1_aae02.2.2.1, mcJ0_isLatin1_aae02.2.2.2, rfl⟩
theorem xshr0 {a : Int} (h : in32 a) : xshr a 0 = a := by
  unfold xshr
  rw [← i32_zero, sb_shr0]
  exact i32_toInt' h
theorem ctJ0_length_8abf5 : xCT yJ0_length_8abf5 cJ0_length_8abf5 1 (some FieldType.int) 1 20 gJ_length := xmet (by decide +kernel) (fun As F r F' hg => by obtain ⟨x, rfl, ⟨j, hj, rfl⟩, rfl, rfl⟩ := hg; exact Nat.le_of_ble_eq_true rfl) (fun As F r F' hg => by
  obtain ⟨x, rfl, ⟨j, hj, rfl⟩, rfl, rfl⟩ := hg
  refine s_aload_n (j := 0) dJ0_length_8abf5_0 rfl rfl ?_
  refine s_getSV dJ0_length_8abf5_1 kfJ_9 hj ?_
  refine s_alenS dJ0_length_8abf5_4 hj ?_
  refine s_aload_n (j := 0) dJ0_length_8abf5_5 rfl rfl ?_
  refine s_callT (As := []) (rest := [vI ((strL.getD j 0 : Nat) : Int)]) (r := some (vI 0)) dJ0_length_8abf5_6 (clJ_cod (Nat.le_of_ble_eq_true rfl) (Nat.le_of_ble_eq_true rfl)) ⟨j, hj, rfl⟩ rfl ⟨_, rfl, hj, rfl, rfl⟩ rfl (Nat.le_of_ble_eq_true rfl) ?_
  refine s_ishr dJ0_length_8abf5_9 ?_
  rw [xshr0 (strL_in j), ← slen_at]
  exact s_ireturn dJ0_length_8abf5_10 rfl ⟨rfl, rfl⟩)
theorem mcJ0_length_8abf5 : Cond.code yJ0_length_8abf5 cJ0_length_8abf5 1 (some FieldType.int) ∈ xw_T ∧ Cond.initialized yJ0_length_8abf5.cls ∈ xw_T ∧ Cond.instanceMethod yJ0_length_8abf5 ∈ xw_T ∧ Cond.selects yJ0_length_8abf5.cls yJ0_length_8abf5 yJ0_length_8abf5 ∈ xw_T := ⟨(xinT 620 (by decide +kernel) (by decide +kernel)), (xinT 128 (by decide +kernel) (by decide +kernel)), (xinT 618 (by decide +kernel) (by decide +kernel)), (xinT 619 (by decide +kernel) (by decide +kernel))⟩
theorem ctJ0_charAt_5068e : xCT yJ0_charAt_5068e cJ0_charAt_5068e 2 (some FieldType.char) 3 64 gJ_charAt := xmet (by decide +kernel) (fun As F r F' hg => by obtain ⟨x, i, rfl, ⟨j, hj, rfl⟩, h0, h1, rfl, rfl⟩ := hg; exact Nat.le_of_ble_eq_true rfl) (fun As F r F' hg => by
  obtain ⟨x, i, rfl, ⟨j, hj, rfl⟩, h0, h1, rfl, rfl⟩ := hg
  rw [slen_at] at h1
  have hs := sch_at hj h0 h1
  refine s_aload_n (j := 0) dJ0_charAt_5068e_0 rfl rfl ?_
  refine s_callT (As := []) (rest := []) (r := some (vI 1)) dJ0_charAt_5068e_1 (clJ_isl (Nat.le_of_ble_eq_true rfl) (Nat.le_of_ble_eq_true rfl)) ⟨j, hj, rfl⟩ rfl ⟨_, rfl, hj, rfl, rfl⟩ rfl (Nat.le_of_ble_eq_true rfl) ?_
  refine s_if_eq (tgt := 16) dJ0_charAt_5068e_4 rfl (fun hc => absurd hc (by decide)) (fun _ => ?_)
  refine s_aload_n (j := 0) dJ0_charAt_5068e_7 rfl rfl ?_
  refine s_getSV dJ0_charAt_5068e_8 kfJ_9 hj ?_
  refine s_iload_n (j := 1) dJ0_charAt_5068e_11 rfl rfl ?_
  refine s_callS (As := [vR (2000 + j), vI i]) (rest := []) (r := some (vI (sch (1000 + j) i))) dJ0_charAt_5068e_12 (clJ_c1 (Nat.le_of_ble_eq_true rfl) (Nat.le_of_ble_eq_true rfl)) rfl ⟨_, _, rfl, hj, h0, h1, rfl, rfl⟩ rfl (Nat.le_of_ble_eq_true rfl) ?_
  exact s_creturn dJ0_charAt_5068e_15 rfl hs.2 ⟨rfl, rfl⟩)
theorem mcJ0_charAt_5068e : Cond.code yJ0_charAt_5068e cJ0_charAt_5068e 2 (some FieldType.char) ∈ xw_T ∧ Cond.initialized yJ0_charAt_5068e.cls ∈ xw_T ∧ Cond.instanceMethod yJ0_charAt_5068e ∈ xw_T ∧ Cond.selects yJ0_charAt_5068e.cls yJ0_charAt_5068e yJ0_charAt_5068e ∈ xw_T := ⟨(xinT 630 (by decide +kernel) (by decide +kernel)), (xinT 128 (by decide +kernel) (by decide +kernel)), (xinT 628 (by decide +kernel) (by decide +kernel)), (xinT 629 (by decide +kernel) (by decide +kernel))⟩
theorem clX2_110 {fr lo : Nat} (h1 : 1 + 1 ≤ fr) (h2 : 8 + (1 + 11) + 20 ≤ lo) : xCallT "OnePair$Reader" fr lo 110 0 gJ_length := ⟨_, _, _, _, _, _, ctJ0_length_8abf5, h1, h2, mcJ0_length_8abf5.1, (xinT 617 (by decide +kernel) (by decide +kernel)), mcJ0_length_8abf5.2.1, ⟨by decide +kernel, by decide +kernel, by decide +kernel⟩, mcJ0_length_8abf5.2.2.1, mcJ0_length_8abf5.2.2.2, rfl⟩
theorem clX2_115 {fr lo : Nat} (h1 : 3 + 1 ≤ fr) (h2 : 8 + (2 + 11) + 64 ≤ lo) : xCallT "OnePair$Reader" fr lo 115 1 gJ_charAt := ⟨_, _, _, _, _, _, ctJ0_charAt_5068e, h1, h2, mcJ0_charAt_5068e.1, (xinT 627 (by decide +kernel) (by decide +kernel)), mcJ0_charAt_5068e.2.1, ⟨by decide +kernel, by decide +kernel, by decide +kernel⟩, mcJ0_charAt_5068e.2.2.1, mcJ0_charAt_5068e.2.2.2, rfl⟩
