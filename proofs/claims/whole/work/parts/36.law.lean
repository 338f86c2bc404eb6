/-! ===== the law, case by case ===== -/
theorem k9 : isK 1 9 := rfl
theorem k10 : isK 173 10 := rfl
theorem xcI (z : Int) : xcats [vI z] ≤ 8 := by show 1 ≤ 8; omega
theorem xcL (z : Int) : xcats [vL z] ≤ 8 := by show 2 ≤ 8; omega
theorem clL_13 : xCall R_law 12 454 0 13 9 5 gX9_feed := ⟨_, _, _, _, _, _, ctX9_feed, Nat.le_of_ble_eq_true rfl, Nat.le_of_ble_eq_true rfl, mcX9_feed.1, (xinT 522 (by decide +kernel) (by decide +kernel)), mcX9_feed.2.1, ⟨by decide +kernel, by decide +kernel, by decide +kernel⟩, by rw [if_pos rfl]; exact ⟨mcX9_feed.2.2.1, mcX9_feed.2.2.2, _, _, rfl⟩⟩
theorem clL_17 : xCall R_law 12 454 0 17 10 5 gX10_feed := ⟨_, _, _, _, _, _, ctX10_feed, Nat.le_of_ble_eq_true rfl, Nat.le_of_ble_eq_true rfl, mcX10_feed.1, (xinT 1472 (by decide +kernel) (by decide +kernel)), mcX10_feed.2.1, ⟨by decide +kernel, by decide +kernel, by decide +kernel⟩, by rw [if_pos rfl]; exact ⟨mcX10_feed.2.2.1, mcX10_feed.2.2.2, _, _, rfl⟩⟩
theorem clL_18 : xCall R_law 12 454 0 18 9 1 gX9_end := ⟨_, _, _, _, _, _, ctX9_end, Nat.le_of_ble_eq_true rfl, Nat.le_of_ble_eq_true rfl, mcX9_end.1, (xinT 530 (by decide +kernel) (by decide +kernel)), mcX9_end.2.1, ⟨by decide +kernel, by decide +kernel, by decide +kernel⟩, by rw [if_pos rfl]; exact ⟨mcX9_end.2.2.1, mcX9_end.2.2.2, _, _, rfl⟩⟩
theorem clL_22 : xCall R_law 12 454 0 22 10 1 gX10_end := ⟨_, _, _, _, _, _, ctX10_end, Nat.le_of_ble_eq_true rfl, Nat.le_of_ble_eq_true rfl, mcX10_end.1, (xinT 1476 (by decide +kernel) (by decide +kernel)), mcX10_end.2.1, ⟨by decide +kernel, by decide +kernel, by decide +kernel⟩, by rw [if_pos rfl]; exact ⟨mcX10_end.2.2.1, mcX10_end.2.2.2, _, _, rfl⟩⟩
theorem clL_23 : xCall R_law 12 454 0 23 9 2 gX9_text := ⟨_, _, _, _, _, _, ctX9_text, Nat.le_of_ble_eq_true rfl, Nat.le_of_ble_eq_true rfl, mcX9_text.1, (xinT 534 (by decide +kernel) (by decide +kernel)), mcX9_text.2.1, ⟨by decide +kernel, by decide +kernel, by decide +kernel⟩, by rw [if_pos rfl]; exact ⟨mcX9_text.2.2.1, mcX9_text.2.2.2, _, _, rfl⟩⟩
theorem clL_27 : xCall R_law 12 454 0 27 10 2 gX10_text := ⟨_, _, _, _, _, _, ctX10_text, Nat.le_of_ble_eq_true rfl, Nat.le_of_ble_eq_true rfl, mcX10_text.1, (xinT 1480 (by decide +kernel) (by decide +kernel)), mcX10_text.2.1, ⟨by decide +kernel, by decide +kernel, by decide +kernel⟩, by rw [if_pos rfl]; exact ⟨mcX10_text.2.2.1, mcX10_text.2.2.2, _, _, rfl⟩⟩
theorem clL_28 : xCall R_law 12 454 0 28 9 1 gX9_fault := ⟨_, _, _, _, _, _, ctX9_fault, Nat.le_of_ble_eq_true rfl, Nat.le_of_ble_eq_true rfl, mcX9_fault.1, (xinT 746 (by decide +kernel) (by decide +kernel)), mcX9_fault.2.1, ⟨by decide +kernel, by decide +kernel, by decide +kernel⟩, by rw [if_pos rfl]; exact ⟨mcX9_fault.2.2.1, mcX9_fault.2.2.2, _, _, rfl⟩⟩
theorem clL_31 : xCall R_law 12 454 0 31 10 1 gX10_fault := ⟨_, _, _, _, _, _, ctX10_fault, Nat.le_of_ble_eq_true rfl, Nat.le_of_ble_eq_true rfl, mcX10_fault.1, (xinT 1573 (by decide +kernel) (by decide +kernel)), mcX10_fault.2.1, ⟨by decide +kernel, by decide +kernel, by decide +kernel⟩, by rw [if_pos rfl]; exact ⟨mcX10_fault.2.2.1, mcX10_fault.2.2.2, _, _, rfl⟩⟩
theorem clL_32 : xCall R_law 12 454 0 32 9 2 gX9_valley := ⟨_, _, _, _, _, _, ctX9_valley, Nat.le_of_ble_eq_true rfl, Nat.le_of_ble_eq_true rfl, mcX9_valley.1, (xinT 750 (by decide +kernel) (by decide +kernel)), mcX9_valley.2.1, ⟨by decide +kernel, by decide +kernel, by decide +kernel⟩, by rw [if_pos rfl]; exact ⟨mcX9_valley.2.2.1, mcX9_valley.2.2.2, _, _, rfl⟩⟩
theorem clL_35 : xCall R_law 12 454 0 35 10 2 gX10_valley := ⟨_, _, _, _, _, _, ctX10_valley, Nat.le_of_ble_eq_true rfl, Nat.le_of_ble_eq_true rfl, mcX10_valley.1, (xinT 1577 (by decide +kernel) (by decide +kernel)), mcX10_valley.2.1, ⟨by decide +kernel, by decide +kernel, by decide +kernel⟩, by rw [if_pos rfl]; exact ⟨mcX10_valley.2.2.1, mcX10_valley.2.2.2, _, _, rfl⟩⟩
theorem clL_36 : xCall R_law 12 454 0 36 9 3 gX9_house := ⟨_, _, _, _, _, _, ctX9_house, Nat.le_of_ble_eq_true rfl, Nat.le_of_ble_eq_true rfl, mcX9_house.1, (xinT 759 (by decide +kernel) (by decide +kernel)), mcX9_house.2.1, ⟨by decide +kernel, by decide +kernel, by decide +kernel⟩, by rw [if_pos rfl]; exact ⟨mcX9_house.2.2.1, mcX9_house.2.2.2, _, _, rfl⟩⟩
theorem clL_40 : xCall R_law 12 454 0 40 10 3 gX10_house := ⟨_, _, _, _, _, _, ctX10_house, Nat.le_of_ble_eq_true rfl, Nat.le_of_ble_eq_true rfl, mcX10_house.1, (xinT 1593 (by decide +kernel) (by decide +kernel)), mcX10_house.2.1, ⟨by decide +kernel, by decide +kernel, by decide +kernel⟩, by rw [if_pos rfl]; exact ⟨mcX10_house.2.2.1, mcX10_house.2.2.2, _, _, rfl⟩⟩
theorem clL_41 : xCall R_law 12 454 0 41 9 4 gX9_way := ⟨_, _, _, _, _, _, ctX9_way, Nat.le_of_ble_eq_true rfl, Nat.le_of_ble_eq_true rfl, mcX9_way.1, (xinT 763 (by decide +kernel) (by decide +kernel)), mcX9_way.2.1, ⟨by decide +kernel, by decide +kernel, by decide +kernel⟩, by rw [if_pos rfl]; exact ⟨mcX9_way.2.2.1, mcX9_way.2.2.2, _, _, rfl⟩⟩
theorem clL_45 : xCall R_law 12 454 0 45 10 4 gX10_way := ⟨_, _, _, _, _, _, ctX10_way, Nat.le_of_ble_eq_true rfl, Nat.le_of_ble_eq_true rfl, mcX10_way.1, (xinT 1605 (by decide +kernel) (by decide +kernel)), mcX10_way.2.1, ⟨by decide +kernel, by decide +kernel, by decide +kernel⟩, by rw [if_pos rfl]; exact ⟨mcX10_way.2.2.1, mcX10_way.2.2.2, _, _, rfl⟩⟩
theorem clL_46 : xCall R_law 12 454 0 46 9 3 gX9_leg := ⟨_, _, _, _, _, _, ctX9_leg, Nat.le_of_ble_eq_true rfl, Nat.le_of_ble_eq_true rfl, mcX9_leg.1, (xinT 780 (by decide +kernel) (by decide +kernel)), mcX9_leg.2.1, ⟨by decide +kernel, by decide +kernel, by decide +kernel⟩, by rw [if_pos rfl]; exact ⟨mcX9_leg.2.2.1, mcX9_leg.2.2.2, _, _, rfl⟩⟩
theorem clL_49 : xCall R_law 12 454 0 49 10 3 gX10_leg := ⟨_, _, _, _, _, _, ctX10_leg, Nat.le_of_ble_eq_true rfl, Nat.le_of_ble_eq_true rfl, mcX10_leg.1, (xinT 1621 (by decide +kernel) (by decide +kernel)), mcX10_leg.2.1, ⟨by decide +kernel, by decide +kernel, by decide +kernel⟩, by rw [if_pos rfl]; exact ⟨mcX10_leg.2.2.1, mcX10_leg.2.2.2, _, _, rfl⟩⟩
theorem clL_50 : xCall R_law 12 454 0 50 9 3 gX9_play := ⟨_, _, _, _, _, _, ctX9_play, Nat.le_of_ble_eq_true rfl, Nat.le_of_ble_eq_true rfl, mcX9_play.1, (xinT 817 (by decide +kernel) (by decide +kernel)), mcX9_play.2.1, ⟨by decide +kernel, by decide +kernel, by decide +kernel⟩, by rw [if_pos rfl]; exact ⟨mcX9_play.2.2.1, mcX9_play.2.2.2, _, _, rfl⟩⟩
theorem clL_53 : xCall R_law 12 454 0 53 10 3 gX10_play := ⟨_, _, _, _, _, _, ctX10_play, Nat.le_of_ble_eq_true rfl, Nat.le_of_ble_eq_true rfl, mcX10_play.1, (xinT 1625 (by decide +kernel) (by decide +kernel)), mcX10_play.2.1, ⟨by decide +kernel, by decide +kernel, by decide +kernel⟩, by rw [if_pos rfl]; exact ⟨mcX10_play.2.2.1, mcX10_play.2.2.2, _, _, rfl⟩⟩
theorem clL_54 : xCall R_law 12 454 0 54 9 3 gX9_where := ⟨_, _, _, _, _, _, ctX9_where, Nat.le_of_ble_eq_true rfl, Nat.le_of_ble_eq_true rfl, mcX9_where.1, (xinT 866 (by decide +kernel) (by decide +kernel)), mcX9_where.2.1, ⟨by decide +kernel, by decide +kernel, by decide +kernel⟩, by rw [if_pos rfl]; exact ⟨mcX9_where.2.2.1, mcX9_where.2.2.2, _, _, rfl⟩⟩
theorem clL_57 : xCall R_law 12 454 0 57 10 3 gX10_where := ⟨_, _, _, _, _, _, ctX10_where, Nat.le_of_ble_eq_true rfl, Nat.le_of_ble_eq_true rfl, mcX10_where.1, (xinT 1657 (by decide +kernel) (by decide +kernel)), mcX10_where.2.1, ⟨by decide +kernel, by decide +kernel, by decide +kernel⟩, by rw [if_pos rfl]; exact ⟨mcX10_where.2.2.1, mcX10_where.2.2.2, _, _, rfl⟩⟩
theorem clL_58 : xCall R_law 12 454 0 58 9 5 gX9_row := ⟨_, _, _, _, _, _, ctX9_row, Nat.le_of_ble_eq_true rfl, Nat.le_of_ble_eq_true rfl, mcX9_row.1, (xinT 870 (by decide +kernel) (by decide +kernel)), mcX9_row.2.1, ⟨by decide +kernel, by decide +kernel, by decide +kernel⟩, by rw [if_pos rfl]; exact ⟨mcX9_row.2.2.1, mcX9_row.2.2.2, _, _, rfl⟩⟩
theorem clL_61 : xCall R_law 12 454 0 61 10 5 gX10_row := ⟨_, _, _, _, _, _, ctX10_row, Nat.le_of_ble_eq_true rfl, Nat.le_of_ble_eq_true rfl, mcX10_row.1, (xinT 1665 (by decide +kernel) (by decide +kernel)), mcX10_row.2.1, ⟨by decide +kernel, by decide +kernel, by decide +kernel⟩, by rw [if_pos rfl]; exact ⟨mcX10_row.2.2.1, mcX10_row.2.2.2, _, _, rfl⟩⟩
theorem clL_62 : xCall R_law 12 454 0 62 9 4 gX9_rows := ⟨_, _, _, _, _, _, ctX9_rows, Nat.le_of_ble_eq_true rfl, Nat.le_of_ble_eq_true rfl, mcX9_rows.1, (xinT 879 (by decide +kernel) (by decide +kernel)), mcX9_rows.2.1, ⟨by decide +kernel, by decide +kernel, by decide +kernel⟩, by rw [if_pos rfl]; exact ⟨mcX9_rows.2.2.1, mcX9_rows.2.2.2, _, _, rfl⟩⟩
theorem clL_66 : xCall R_law 12 454 0 66 10 4 gX10_rows_ := ⟨_, _, _, _, _, _, ctX10_rows_, Nat.le_of_ble_eq_true rfl, Nat.le_of_ble_eq_true rfl, mcX10_rows_.1, (xinT 1669 (by decide +kernel) (by decide +kernel)), mcX10_rows_.2.1, ⟨by decide +kernel, by decide +kernel, by decide +kernel⟩, by rw [if_pos rfl]; exact ⟨mcX10_rows_.2.2.1, mcX10_rows_.2.2.2, _, _, rfl⟩⟩
theorem clL_67 : xCall R_law 12 454 0 67 9 3 gX9_deed := ⟨_, _, _, _, _, _, ctX9_deed, Nat.le_of_ble_eq_true rfl, Nat.le_of_ble_eq_true rfl, mcX9_deed.1, (xinT 792 (by decide +kernel) (by decide +kernel)), mcX9_deed.2.1, ⟨by decide +kernel, by decide +kernel, by decide +kernel⟩, by rw [if_pos rfl]; exact ⟨mcX9_deed.2.2.1, mcX9_deed.2.2.2, _, _, rfl⟩⟩
theorem clL_70 : xCall R_law 12 454 0 70 10 3 gX10_deed := ⟨_, _, _, _, _, _, ctX10_deed, Nat.le_of_ble_eq_true rfl, Nat.le_of_ble_eq_true rfl, mcX10_deed.1, (xinT 1673 (by decide +kernel) (by decide +kernel)), mcX10_deed.2.1, ⟨by decide +kernel, by decide +kernel, by decide +kernel⟩, by rw [if_pos rfl]; exact ⟨mcX10_deed.2.2.1, mcX10_deed.2.2.2, _, _, rfl⟩⟩
theorem clL_71 : xCall R_law 12 454 0 71 9 1 gX9_stop := ⟨_, _, _, _, _, _, ctX9_stop, Nat.le_of_ble_eq_true rfl, Nat.le_of_ble_eq_true rfl, mcX9_stop.1, (xinT 901 (by decide +kernel) (by decide +kernel)), mcX9_stop.2.1, ⟨by decide +kernel, by decide +kernel, by decide +kernel⟩, by rw [if_pos rfl]; exact ⟨mcX9_stop.2.2.1, mcX9_stop.2.2.2, _, _, rfl⟩⟩
theorem clL_74 : xCall R_law 12 454 0 74 10 1 gX10_stop := ⟨_, _, _, _, _, _, ctX10_stop, Nat.le_of_ble_eq_true rfl, Nat.le_of_ble_eq_true rfl, mcX10_stop.1, (xinT 1677 (by decide +kernel) (by decide +kernel)), mcX10_stop.2.1, ⟨by decide +kernel, by decide +kernel, by decide +kernel⟩, by rw [if_pos rfl]; exact ⟨mcX10_stop.2.2.1, mcX10_stop.2.2.2, _, _, rfl⟩⟩
theorem clL_75 : xCall R_law 12 454 0 75 9 5 gX9_owner := ⟨_, _, _, _, _, _, ctX9_owner, Nat.le_of_ble_eq_true rfl, Nat.le_of_ble_eq_true rfl, mcX9_owner.1, (xinT 956 (by decide +kernel) (by decide +kernel)), mcX9_owner.2.1, ⟨by decide +kernel, by decide +kernel, by decide +kernel⟩, by rw [if_pos rfl]; exact ⟨mcX9_owner.2.2.1, mcX9_owner.2.2.2, _, _, rfl⟩⟩
theorem clL_79 : xCall R_law 12 454 0 79 10 5 gX10_owner := ⟨_, _, _, _, _, _, ctX10_owner, Nat.le_of_ble_eq_true rfl, Nat.le_of_ble_eq_true rfl, mcX10_owner.1, (xinT 1725 (by decide +kernel) (by decide +kernel)), mcX10_owner.2.1, ⟨by decide +kernel, by decide +kernel, by decide +kernel⟩, by rw [if_pos rfl]; exact ⟨mcX10_owner.2.2.1, mcX10_owner.2.2.2, _, _, rfl⟩⟩
theorem clL_80 : xCall R_law 12 454 0 80 9 4 gX9_has := ⟨_, _, _, _, _, _, ctX9_has, Nat.le_of_ble_eq_true rfl, Nat.le_of_ble_eq_true rfl, mcX9_has.1, (xinT 968 (by decide +kernel) (by decide +kernel)), mcX9_has.2.1, ⟨by decide +kernel, by decide +kernel, by decide +kernel⟩, by rw [if_pos rfl]; exact ⟨mcX9_has.2.2.1, mcX9_has.2.2.2, _, _, rfl⟩⟩
theorem clL_83 : xCall R_law 12 454 0 83 10 4 gX10_has := ⟨_, _, _, _, _, _, ctX10_has, Nat.le_of_ble_eq_true rfl, Nat.le_of_ble_eq_true rfl, mcX10_has.1, (xinT 1733 (by decide +kernel) (by decide +kernel)), mcX10_has.2.1, ⟨by decide +kernel, by decide +kernel, by decide +kernel⟩, by rw [if_pos rfl]; exact ⟨mcX10_has.2.2.1, mcX10_has.2.2.2, _, _, rfl⟩⟩
theorem clL_84 : xCall R_law 12 454 0 84 9 5 gX9_lawful := ⟨_, _, _, _, _, _, ctX9_lawful, Nat.le_of_ble_eq_true rfl, Nat.le_of_ble_eq_true rfl, mcX9_lawful.1, (xinT 976 (by decide +kernel) (by decide +kernel)), mcX9_lawful.2.1, ⟨by decide +kernel, by decide +kernel, by decide +kernel⟩, by rw [if_pos rfl]; exact ⟨mcX9_lawful.2.2.1, mcX9_lawful.2.2.2, _, _, rfl⟩⟩
theorem clL_87 : xCall R_law 12 454 0 87 10 5 gX10_lawful := ⟨_, _, _, _, _, _, ctX10_lawful, Nat.le_of_ble_eq_true rfl, Nat.le_of_ble_eq_true rfl, mcX10_lawful.1, (xinT 1737 (by decide +kernel) (by decide +kernel)), mcX10_lawful.2.1, ⟨by decide +kernel, by decide +kernel, by decide +kernel⟩, by rw [if_pos rfl]; exact ⟨mcX10_lawful.2.2.1, mcX10_lawful.2.2.2, _, _, rfl⟩⟩
theorem clL_88 : xCall R_law 12 454 0 88 9 6 gX9_best := ⟨_, _, _, _, _, _, ctX9_best, Nat.le_of_ble_eq_true rfl, Nat.le_of_ble_eq_true rfl, mcX9_best.1, (xinT 998 (by decide +kernel) (by decide +kernel)), mcX9_best.2.1, ⟨by decide +kernel, by decide +kernel, by decide +kernel⟩, by rw [if_pos rfl]; exact ⟨mcX9_best.2.2.1, mcX9_best.2.2.2, _, _, rfl⟩⟩
theorem clL_92 : xCall R_law 12 454 0 92 10 6 gX10_best := ⟨_, _, _, _, _, _, ctX10_best, Nat.le_of_ble_eq_true rfl, Nat.le_of_ble_eq_true rfl, mcX10_best.1, (xinT 1745 (by decide +kernel) (by decide +kernel)), mcX10_best.2.1, ⟨by decide +kernel, by decide +kernel, by decide +kernel⟩, by rw [if_pos rfl]; exact ⟨mcX10_best.2.2.1, mcX10_best.2.2.2, _, _, rfl⟩⟩
theorem clL_93 : xCall R_law 12 454 0 93 9 7 gX9_spot := ⟨_, _, _, _, _, _, ctX9_spot, Nat.le_of_ble_eq_true rfl, Nat.le_of_ble_eq_true rfl, mcX9_spot.1, (xinT 1074 (by decide +kernel) (by decide +kernel)), mcX9_spot.2.1, ⟨by decide +kernel, by decide +kernel, by decide +kernel⟩, by rw [if_pos rfl]; exact ⟨mcX9_spot.2.2.1, mcX9_spot.2.2.2, _, _, rfl⟩⟩
theorem clL_97 : xCall R_law 12 454 0 97 10 7 gX10_spot := ⟨_, _, _, _, _, _, ctX10_spot, Nat.le_of_ble_eq_true rfl, Nat.le_of_ble_eq_true rfl, mcX10_spot.1, (xinT 1790 (by decide +kernel) (by decide +kernel)), mcX10_spot.2.1, ⟨by decide +kernel, by decide +kernel, by decide +kernel⟩, by rw [if_pos rfl]; exact ⟨mcX10_spot.2.2.1, mcX10_spot.2.2.2, _, _, rfl⟩⟩
theorem clL_98 : xCall R_law 12 454 0 98 9 8 gX9_harm := ⟨_, _, _, _, _, _, ctX9_harm, Nat.le_of_ble_eq_true rfl, Nat.le_of_ble_eq_true rfl, mcX9_harm.1, (xinT 1103 (by decide +kernel) (by decide +kernel)), mcX9_harm.2.1, ⟨by decide +kernel, by decide +kernel, by decide +kernel⟩, by rw [if_pos rfl]; exact ⟨mcX9_harm.2.2.1, mcX9_harm.2.2.2, _, _, rfl⟩⟩
theorem clL_102 : xCall R_law 12 454 0 102 10 8 gX10_harm := ⟨_, _, _, _, _, _, ctX10_harm, Nat.le_of_ble_eq_true rfl, Nat.le_of_ble_eq_true rfl, mcX10_harm.1, (xinT 1802 (by decide +kernel) (by decide +kernel)), mcX10_harm.2.1, ⟨by decide +kernel, by decide +kernel, by decide +kernel⟩, by rw [if_pos rfl]; exact ⟨mcX10_harm.2.2.1, mcX10_harm.2.2.2, _, _, rfl⟩⟩
theorem clL_103 : xCall R_law 12 454 0 103 9 6 gX9_soon := ⟨_, _, _, _, _, _, ctX9_soon, Nat.le_of_ble_eq_true rfl, Nat.le_of_ble_eq_true rfl, mcX9_soon.1, (xinT 1131 (by decide +kernel) (by decide +kernel)), mcX9_soon.2.1, ⟨by decide +kernel, by decide +kernel, by decide +kernel⟩, by rw [if_pos rfl]; exact ⟨mcX9_soon.2.2.1, mcX9_soon.2.2.2, _, _, rfl⟩⟩
theorem clL_106 : xCall R_law 12 454 0 106 10 6 gX10_soon := ⟨_, _, _, _, _, _, ctX10_soon, Nat.le_of_ble_eq_true rfl, Nat.le_of_ble_eq_true rfl, mcX10_soon.1, (xinT 1814 (by decide +kernel) (by decide +kernel)), mcX10_soon.2.1, ⟨by decide +kernel, by decide +kernel, by decide +kernel⟩, by rw [if_pos rfl]; exact ⟨mcX10_soon.2.2.1, mcX10_soon.2.2.2, _, _, rfl⟩⟩
theorem clL_107 : xCall R_law 12 454 0 107 9 7 gX9_worth := ⟨_, _, _, _, _, _, ctX9_worth, Nat.le_of_ble_eq_true rfl, Nat.le_of_ble_eq_true rfl, mcX9_worth.1, (xinT 1135 (by decide +kernel) (by decide +kernel)), mcX9_worth.2.1, ⟨by decide +kernel, by decide +kernel, by decide +kernel⟩, by rw [if_pos rfl]; exact ⟨mcX9_worth.2.2.1, mcX9_worth.2.2.2, _, _, rfl⟩⟩
theorem clL_110 : xCall R_law 12 454 0 110 10 7 gX10_worth := ⟨_, _, _, _, _, _, ctX10_worth, Nat.le_of_ble_eq_true rfl, Nat.le_of_ble_eq_true rfl, mcX10_worth.1, (xinT 1818 (by decide +kernel) (by decide +kernel)), mcX10_worth.2.1, ⟨by decide +kernel, by decide +kernel, by decide +kernel⟩, by rw [if_pos rfl]; exact ⟨mcX10_worth.2.2.1, mcX10_worth.2.2.2, _, _, rfl⟩⟩
theorem clL_111 : xCall R_law 12 454 0 111 9 8 gX9_pays := ⟨_, _, _, _, _, _, ctX9_pays, Nat.le_of_ble_eq_true rfl, Nat.le_of_ble_eq_true rfl, mcX9_pays.1, (xinT 1149 (by decide +kernel) (by decide +kernel)), mcX9_pays.2.1, ⟨by decide +kernel, by decide +kernel, by decide +kernel⟩, by rw [if_pos rfl]; exact ⟨mcX9_pays.2.2.1, mcX9_pays.2.2.2, _, _, rfl⟩⟩
theorem clL_115 : xCall R_law 12 454 0 115 10 8 gX10_pays := ⟨_, _, _, _, _, _, ctX10_pays, Nat.le_of_ble_eq_true rfl, Nat.le_of_ble_eq_true rfl, mcX10_pays.1, (xinT 1826 (by decide +kernel) (by decide +kernel)), mcX10_pays.2.1, ⟨by decide +kernel, by decide +kernel, by decide +kernel⟩, by rw [if_pos rfl]; exact ⟨mcX10_pays.2.2.1, mcX10_pays.2.2.2, _, _, rfl⟩⟩
theorem clL_116 : xCall R_law 12 454 0 116 9 7 gX9_deal := ⟨_, _, _, _, _, _, ctX9_deal, Nat.le_of_ble_eq_true rfl, Nat.le_of_ble_eq_true rfl, mcX9_deal.1, (xinT 1153 (by decide +kernel) (by decide +kernel)), mcX9_deal.2.1, ⟨by decide +kernel, by decide +kernel, by decide +kernel⟩, by rw [if_pos rfl]; exact ⟨mcX9_deal.2.2.1, mcX9_deal.2.2.2, _, _, rfl⟩⟩
theorem clL_119 : xCall R_law 12 454 0 119 10 7 gX10_deal := ⟨_, _, _, _, _, _, ctX10_deal, Nat.le_of_ble_eq_true rfl, Nat.le_of_ble_eq_true rfl, mcX10_deal.1, (xinT 1830 (by decide +kernel) (by decide +kernel)), mcX10_deal.2.1, ⟨by decide +kernel, by decide +kernel, by decide +kernel⟩, by rw [if_pos rfl]; exact ⟨mcX10_deal.2.2.1, mcX10_deal.2.2.2, _, _, rfl⟩⟩
theorem clL_120 : xCall R_law 12 454 0 120 9 5 gX9_halved := ⟨_, _, _, _, _, _, ctX9_halved, Nat.le_of_ble_eq_true rfl, Nat.le_of_ble_eq_true rfl, mcX9_halved.1, (xinT 1171 (by decide +kernel) (by decide +kernel)), mcX9_halved.2.1, ⟨by decide +kernel, by decide +kernel, by decide +kernel⟩, by rw [if_pos rfl]; exact ⟨mcX9_halved.2.2.1, mcX9_halved.2.2.2, _, _, rfl⟩⟩
theorem clL_123 : xCall R_law 12 454 0 123 10 5 gX10_halved := ⟨_, _, _, _, _, _, ctX10_halved, Nat.le_of_ble_eq_true rfl, Nat.le_of_ble_eq_true rfl, mcX10_halved.1, (xinT 1838 (by decide +kernel) (by decide +kernel)), mcX10_halved.2.1, ⟨by decide +kernel, by decide +kernel, by decide +kernel⟩, by rw [if_pos rfl]; exact ⟨mcX10_halved.2.2.1, mcX10_halved.2.2.2, _, _, rfl⟩⟩
theorem clL_124 : xCall R_law 12 454 0 124 9 7 gX9_needs := ⟨_, _, _, _, _, _, ctX9_needs, Nat.le_of_ble_eq_true rfl, Nat.le_of_ble_eq_true rfl, mcX9_needs.1, (xinT 1180 (by decide +kernel) (by decide +kernel)), mcX9_needs.2.1, ⟨by decide +kernel, by decide +kernel, by decide +kernel⟩, by rw [if_pos rfl]; exact ⟨mcX9_needs.2.2.1, mcX9_needs.2.2.2, _, _, rfl⟩⟩
theorem clL_127 : xCall R_law 12 454 0 127 10 7 gX10_needs := ⟨_, _, _, _, _, _, ctX10_needs, Nat.le_of_ble_eq_true rfl, Nat.le_of_ble_eq_true rfl, mcX10_needs.1, (xinT 1842 (by decide +kernel) (by decide +kernel)), mcX10_needs.2.1, ⟨by decide +kernel, by decide +kernel, by decide +kernel⟩, by rw [if_pos rfl]; exact ⟨mcX10_needs.2.2.1, mcX10_needs.2.2.2, _, _, rfl⟩⟩
theorem clL_128 : xCall R_law 12 454 0 128 9 5 gX9_day := ⟨_, _, _, _, _, _, ctX9_day, Nat.le_of_ble_eq_true rfl, Nat.le_of_ble_eq_true rfl, mcX9_day.1, (xinT 1191 (by decide +kernel) (by decide +kernel)), mcX9_day.2.1, ⟨by decide +kernel, by decide +kernel, by decide +kernel⟩, by rw [if_pos rfl]; exact ⟨mcX9_day.2.2.1, mcX9_day.2.2.2, _, _, rfl⟩⟩
theorem clL_131 : xCall R_law 12 454 0 131 10 5 gX10_day := ⟨_, _, _, _, _, _, ctX10_day, Nat.le_of_ble_eq_true rfl, Nat.le_of_ble_eq_true rfl, mcX10_day.1, (xinT 1851 (by decide +kernel) (by decide +kernel)), mcX10_day.2.1, ⟨by decide +kernel, by decide +kernel, by decide +kernel⟩, by rw [if_pos rfl]; exact ⟨mcX10_day.2.2.1, mcX10_day.2.2.2, _, _, rfl⟩⟩
theorem clL_132 : xCall R_law 12 454 0 132 9 2 gX9_cross := ⟨_, _, _, _, _, _, ctX9_cross, Nat.le_of_ble_eq_true rfl, Nat.le_of_ble_eq_true rfl, mcX9_cross.1, (xinT 990 (by decide +kernel) (by decide +kernel)), mcX9_cross.2.1, ⟨by decide +kernel, by decide +kernel, by decide +kernel⟩, by rw [if_pos rfl]; exact ⟨mcX9_cross.2.2.1, mcX9_cross.2.2.2, _, _, rfl⟩⟩
theorem clL_135 : xCall R_law 12 454 0 135 10 2 gX10_cross := ⟨_, _, _, _, _, _, ctX10_cross, Nat.le_of_ble_eq_true rfl, Nat.le_of_ble_eq_true rfl, mcX10_cross.1, (xinT 1883 (by decide +kernel) (by decide +kernel)), mcX10_cross.2.1, ⟨by decide +kernel, by decide +kernel, by decide +kernel⟩, by rw [if_pos rfl]; exact ⟨mcX10_cross.2.2.1, mcX10_cross.2.2.2, _, _, rfl⟩⟩
theorem clL_136 : xCall R_law 12 454 0 136 9 3 gX9_error := ⟨_, _, _, _, _, _, ctX9_error, Nat.le_of_ble_eq_true rfl, Nat.le_of_ble_eq_true rfl, mcX9_error.1, (xinT 796 (by decide +kernel) (by decide +kernel)), mcX9_error.2.1, ⟨by decide +kernel, by decide +kernel, by decide +kernel⟩, by rw [if_pos rfl]; exact ⟨mcX9_error.2.2.1, mcX9_error.2.2.2, _, _, rfl⟩⟩
theorem clL_139 : xCall R_law 12 454 0 139 10 3 gX10_error := ⟨_, _, _, _, _, _, ctX10_error, Nat.le_of_ble_eq_true rfl, Nat.le_of_ble_eq_true rfl, mcX10_error.1, (xinT 1887 (by decide +kernel) (by decide +kernel)), mcX10_error.2.1, ⟨by decide +kernel, by decide +kernel, by decide +kernel⟩, by rw [if_pos rfl]; exact ⟨mcX10_error.2.2.1, mcX10_error.2.2.2, _, _, rfl⟩⟩
theorem clL_140 : xCall R_law 12 454 0 140 9 4 gX9_blame := ⟨_, _, _, _, _, _, ctX9_blame, Nat.le_of_ble_eq_true rfl, Nat.le_of_ble_eq_true rfl, mcX9_blame.1, (xinT 1297 (by decide +kernel) (by decide +kernel)), mcX9_blame.2.1, ⟨by decide +kernel, by decide +kernel, by decide +kernel⟩, by rw [if_pos rfl]; exact ⟨mcX9_blame.2.2.1, mcX9_blame.2.2.2, _, _, rfl⟩⟩
theorem clL_143 : xCall R_law 12 454 0 143 10 4 gX10_blame := ⟨_, _, _, _, _, _, ctX10_blame, Nat.le_of_ble_eq_true rfl, Nat.le_of_ble_eq_true rfl, mcX10_blame.1, (xinT 1891 (by decide +kernel) (by decide +kernel)), mcX10_blame.2.1, ⟨by decide +kernel, by decide +kernel, by decide +kernel⟩, by rw [if_pos rfl]; exact ⟨mcX10_blame.2.2.1, mcX10_blame.2.2.2, _, _, rfl⟩⟩
theorem clL_144 : xCall R_law 12 454 0 144 9 2 gX9_likely := ⟨_, _, _, _, _, _, ctX9_likely, Nat.le_of_ble_eq_true rfl, Nat.le_of_ble_eq_true rfl, mcX9_likely.1, (xinT 1317 (by decide +kernel) (by decide +kernel)), mcX9_likely.2.1, ⟨by decide +kernel, by decide +kernel, by decide +kernel⟩, by rw [if_pos rfl]; exact ⟨mcX9_likely.2.2.1, mcX9_likely.2.2.2, _, _, rfl⟩⟩
theorem clL_147 : xCall R_law 12 454 0 147 10 2 gX10_likely := ⟨_, _, _, _, _, _, ctX10_likely, Nat.le_of_ble_eq_true rfl, Nat.le_of_ble_eq_true rfl, mcX10_likely.1, (xinT 1919 (by decide +kernel) (by decide +kernel)), mcX10_likely.2.1, ⟨by decide +kernel, by decide +kernel, by decide +kernel⟩, by rw [if_pos rfl]; exact ⟨mcX10_likely.2.2.1, mcX10_likely.2.2.2, _, _, rfl⟩⟩
theorem clL_148 : xCall R_law 12 454 0 148 9 5 gX9_home := ⟨_, _, _, _, _, _, ctX9_home, Nat.le_of_ble_eq_true rfl, Nat.le_of_ble_eq_true rfl, mcX9_home.1, (xinT 1244 (by decide +kernel) (by decide +kernel)), mcX9_home.2.1, ⟨by decide +kernel, by decide +kernel, by decide +kernel⟩, by rw [if_pos rfl]; exact ⟨mcX9_home.2.2.1, mcX9_home.2.2.2, _, _, rfl⟩⟩
theorem clL_151 : xCall R_law 12 454 0 151 10 5 gX10_home := ⟨_, _, _, _, _, _, ctX10_home, Nat.le_of_ble_eq_true rfl, Nat.le_of_ble_eq_true rfl, mcX10_home.1, (xinT 1923 (by decide +kernel) (by decide +kernel)), mcX10_home.2.1, ⟨by decide +kernel, by decide +kernel, by decide +kernel⟩, by rw [if_pos rfl]; exact ⟨mcX10_home.2.2.1, mcX10_home.2.2.2, _, _, rfl⟩⟩
theorem clL_152 : xCall R_law 12 454 0 152 9 4 gX9_ways := ⟨_, _, _, _, _, _, ctX9_ways, Nat.le_of_ble_eq_true rfl, Nat.le_of_ble_eq_true rfl, mcX9_ways.1, (xinT 1248 (by decide +kernel) (by decide +kernel)), mcX9_ways.2.1, ⟨by decide +kernel, by decide +kernel, by decide +kernel⟩, by rw [if_pos rfl]; exact ⟨mcX9_ways.2.2.1, mcX9_ways.2.2.2, _, _, rfl⟩⟩
theorem clL_156 : xCall R_law 12 454 0 156 10 4 gX10_ways := ⟨_, _, _, _, _, _, ctX10_ways, Nat.le_of_ble_eq_true rfl, Nat.le_of_ble_eq_true rfl, mcX10_ways.1, (xinT 1927 (by decide +kernel) (by decide +kernel)), mcX10_ways.2.1, ⟨by decide +kernel, by decide +kernel, by decide +kernel⟩, by rw [if_pos rfl]; exact ⟨mcX10_ways.2.2.1, mcX10_ways.2.2.2, _, _, rfl⟩⟩
theorem clL_157 : xCall R_law 12 454 0 157 9 6 gX9_buys := ⟨_, _, _, _, _, _, ctX9_buys, Nat.le_of_ble_eq_true rfl, Nat.le_of_ble_eq_true rfl, mcX9_buys.1, (xinT 1268 (by decide +kernel) (by decide +kernel)), mcX9_buys.2.1, ⟨by decide +kernel, by decide +kernel, by decide +kernel⟩, by rw [if_pos rfl]; exact ⟨mcX9_buys.2.2.1, mcX9_buys.2.2.2, _, _, rfl⟩⟩
theorem clL_160 : xCall R_law 12 454 0 160 10 6 gX10_buys := ⟨_, _, _, _, _, _, ctX10_buys, Nat.le_of_ble_eq_true rfl, Nat.le_of_ble_eq_true rfl, mcX10_buys.1, (xinT 1933 (by decide +kernel) (by decide +kernel)), mcX10_buys.2.1, ⟨by decide +kernel, by decide +kernel, by decide +kernel⟩, by rw [if_pos rfl]; exact ⟨mcX10_buys.2.2.1, mcX10_buys.2.2.2, _, _, rfl⟩⟩
theorem clL_161 : xCall R_law 12 454 0 161 9 5 gX9_both := ⟨_, _, _, _, _, _, ctX9_both, Nat.le_of_ble_eq_true rfl, Nat.le_of_ble_eq_true rfl, mcX9_both.1, (xinT 1289 (by decide +kernel) (by decide +kernel)), mcX9_both.2.1, ⟨by decide +kernel, by decide +kernel, by decide +kernel⟩, by rw [if_pos rfl]; exact ⟨mcX9_both.2.2.1, mcX9_both.2.2.2, _, _, rfl⟩⟩
theorem clL_164 : xCall R_law 12 454 0 164 10 5 gX10_both := ⟨_, _, _, _, _, _, ctX10_both, Nat.le_of_ble_eq_true rfl, Nat.le_of_ble_eq_true rfl, mcX10_both.1, (xinT 1937 (by decide +kernel) (by decide +kernel)), mcX10_both.2.1, ⟨by decide +kernel, by decide +kernel, by decide +kernel⟩, by rw [if_pos rfl]; exact ⟨mcX10_both.2.2.1, mcX10_both.2.2.2, _, _, rfl⟩⟩
theorem clL_165 : xCall R_law 12 454 0 165 9 7 gX9_ease := ⟨_, _, _, _, _, _, ctX9_ease, Nat.le_of_ble_eq_true rfl, Nat.le_of_ble_eq_true rfl, mcX9_ease.1, (xinT 1293 (by decide +kernel) (by decide +kernel)), mcX9_ease.2.1, ⟨by decide +kernel, by decide +kernel, by decide +kernel⟩, by rw [if_pos rfl]; exact ⟨mcX9_ease.2.2.1, mcX9_ease.2.2.2, _, _, rfl⟩⟩
theorem clL_169 : xCall R_law 12 454 0 169 10 7 gX10_ease := ⟨_, _, _, _, _, _, ctX10_ease, Nat.le_of_ble_eq_true rfl, Nat.le_of_ble_eq_true rfl, mcX10_ease.1, (xinT 1941 (by decide +kernel) (by decide +kernel)), mcX10_ease.2.1, ⟨by decide +kernel, by decide +kernel, by decide +kernel⟩, by rw [if_pos rfl]; exact ⟨mcX10_ease.2.2.1, mcX10_ease.2.2.2, _, _, rfl⟩⟩
theorem clL_170 : xCall R_law 12 454 0 170 9 1 gX9_count := ⟨_, _, _, _, _, _, ctX9_count, Nat.le_of_ble_eq_true rfl, Nat.le_of_ble_eq_true rfl, mcX9_count.1, (xinT 800 (by decide +kernel) (by decide +kernel)), mcX9_count.2.1, ⟨by decide +kernel, by decide +kernel, by decide +kernel⟩, by rw [if_pos rfl]; exact ⟨mcX9_count.2.2.1, mcX9_count.2.2.2, _, _, rfl⟩⟩
theorem clL_173 : xCall R_law 12 454 0 173 10 1 gX10_count := ⟨_, _, _, _, _, _, ctX10_count, Nat.le_of_ble_eq_true rfl, Nat.le_of_ble_eq_true rfl, mcX10_count.1, (xinT 1945 (by decide +kernel) (by decide +kernel)), mcX10_count.2.1, ⟨by decide +kernel, by decide +kernel, by decide +kernel⟩, by rw [if_pos rfl]; exact ⟨mcX10_count.2.2.1, mcX10_count.2.2.2, _, _, rfl⟩⟩
theorem clL_174 : xCall R_law 12 454 0 174 9 1 gX9_image := ⟨_, _, _, _, _, _, ctX9_image, Nat.le_of_ble_eq_true rfl, Nat.le_of_ble_eq_true rfl, mcX9_image.1, (xinT 804 (by decide +kernel) (by decide +kernel)), mcX9_image.2.1, ⟨by decide +kernel, by decide +kernel, by decide +kernel⟩, by rw [if_pos rfl]; exact ⟨mcX9_image.2.2.1, mcX9_image.2.2.2, _, _, rfl⟩⟩
theorem clL_178 : xCall R_law 12 454 0 178 10 1 gX10_image := ⟨_, _, _, _, _, _, ctX10_image, Nat.le_of_ble_eq_true rfl, Nat.le_of_ble_eq_true rfl, mcX10_image.1, (xinT 1949 (by decide +kernel) (by decide +kernel)), mcX10_image.2.1, ⟨by decide +kernel, by decide +kernel, by decide +kernel⟩, by rw [if_pos rfl]; exact ⟨mcX10_image.2.2.1, mcX10_image.2.2.2, _, _, rfl⟩⟩
theorem clL_179 : xCall R_law 12 454 0 179 9 1 gX9_again := ⟨_, _, _, _, _, _, ctX9_again, Nat.le_of_ble_eq_true rfl, Nat.le_of_ble_eq_true rfl, mcX9_again.1, (xinT 813 (by decide +kernel) (by decide +kernel)), mcX9_again.2.1, ⟨by decide +kernel, by decide +kernel, by decide +kernel⟩, by rw [if_pos rfl]; exact ⟨mcX9_again.2.2.1, mcX9_again.2.2.2, _, _, rfl⟩⟩
theorem clL_182 : xCall R_law 12 454 0 182 10 1 gX10_again := ⟨_, _, _, _, _, _, ctX10_again, Nat.le_of_ble_eq_true rfl, Nat.le_of_ble_eq_true rfl, mcX10_again.1, (xinT 1953 (by decide +kernel) (by decide +kernel)), mcX10_again.2.1, ⟨by decide +kernel, by decide +kernel, by decide +kernel⟩, by rw [if_pos rfl]; exact ⟨mcX10_again.2.2.1, mcX10_again.2.2.2, _, _, rfl⟩⟩
theorem law_c0 {p : Program} {l : Launch} {e : Env} {s : State} {m : MethodId} {below : List Frame} {meth : Method} {c : Code} {b L : Nat} {xs : Nat → Int32} {D : va_G} {ad : Nat → Nat} {cA : Nat → ClassId} {Q : State → Prop} {RR : Mem → Prop} (C : LX p s m meth c b L xs D ad cA) {i : Nat} {F : Mem} (hi : i + 8 < L) (hR : RR F) (hp : pcase RR gX9_feed gX10_feed [vI (xs (i + 1)).toInt, vI (xs (i + 2)).toInt, vI (xs (i + 3)).toInt, vI (xs (i + 4)).toInt, vI (xs (i + 5)).toInt]) (h : ∀ F', RR F' → LWP p l e s m below meth c b D ad cA Q 2440 i [] F') : LWP p l e s m below meth c b D ad cA Q 204 i [] F := by
  refine lwp_mok (fun hm => ?_)
  obtain ⟨z, F1, F2, g1, g2, hR2⟩ := hp F hR hm
  refine l_x C dL_law_204 ?_
  refine l_arg C (k := 1) dL_law_205 dL_law_206 dL_law_207 dL_law_208 dL_law_209 (by omega) ?_
  refine l_arg C (k := 2) dL_law_210 dL_law_211 dL_law_212 dL_law_213 dL_law_214 (by omega) ?_
  refine l_arg C (k := 3) dL_law_215 dL_law_216 dL_law_217 dL_law_218 dL_law_219 (by omega) ?_
  refine l_arg C (k := 4) dL_law_220 dL_law_221 dL_law_222 dL_law_223 dL_law_224 (by omega) ?_
  refine l_arg C (k := 5) dL_law_225 dL_law_226 dL_law_227 dL_law_228 dL_law_229 (by omega) ?_
  refine l_callV C (As := [vI (xs (i + 1)).toInt, vI (xs (i + 2)).toInt, vI (xs (i + 3)).toInt, vI (xs (i + 4)).toInt, vI (xs (i + 5)).toInt]) (rest := []) dL_law_230 clL_13 k9 rfl g1 rfl (Nat.zero_le _) ?_
  refine l_m C dL_law_233 ?_
  refine l_arg C (k := 1) dL_law_234 dL_law_235 dL_law_236 dL_law_237 dL_law_238 (by omega) ?_
  refine l_arg C (k := 2) dL_law_239 dL_law_240 dL_law_241 dL_law_242 dL_law_243 (by omega) ?_
  refine l_arg C (k := 3) dL_law_244 dL_law_245 dL_law_246 dL_law_247 dL_law_248 (by omega) ?_
  refine l_arg C (k := 4) dL_law_249 dL_law_250 dL_law_251 dL_law_252 dL_law_253 (by omega) ?_
  refine l_arg C (k := 5) dL_law_254 dL_law_255 dL_law_256 dL_law_257 dL_law_258 (by omega) ?_
  refine l_callV C (As := [vI (xs (i + 1)).toInt, vI (xs (i + 2)).toInt, vI (xs (i + 3)).toInt, vI (xs (i + 4)).toInt, vI (xs (i + 5)).toInt]) (rest := [vI z]) dL_law_259 clL_17 k10 rfl g2 rfl (xcI z) ?_
  refine l_eq C (tgt := 2440) dL_law_262 rfl ?_
  exact h F2 hR2
theorem law_c1 {p : Program} {l : Launch} {e : Env} {s : State} {m : MethodId} {below : List Frame} {meth : Method} {c : Code} {b L : Nat} {xs : Nat → Int32} {D : va_G} {ad : Nat → Nat} {cA : Nat → ClassId} {Q : State → Prop} {RR : Mem → Prop} (C : LX p s m meth c b L xs D ad cA) {i : Nat} {F : Mem} (hi : i + 8 < L) (hR : RR F) (hp : pcase RR gX9_end gX10_end [vI (xs (i + 1)).toInt]) (h : ∀ F', RR F' → LWP p l e s m below meth c b D ad cA Q 2440 i [] F') : LWP p l e s m below meth c b D ad cA Q 267 i [] F := by
  refine lwp_mok (fun hm => ?_)
  obtain ⟨z, F1, F2, g1, g2, hR2⟩ := hp F hR hm
  refine l_x C dL_law_267 ?_
  refine l_arg C (k := 1) dL_law_268 dL_law_269 dL_law_270 dL_law_271 dL_law_272 (by omega) ?_
  refine l_callV C (As := [vI (xs (i + 1)).toInt]) (rest := []) dL_law_273 clL_18 k9 rfl g1 rfl (Nat.zero_le _) ?_
  refine l_m C dL_law_276 ?_
  refine l_arg C (k := 1) dL_law_277 dL_law_278 dL_law_279 dL_law_280 dL_law_281 (by omega) ?_
  refine l_callV C (As := [vI (xs (i + 1)).toInt]) (rest := [vI z]) dL_law_282 clL_22 k10 rfl g2 rfl (xcI z) ?_
  refine l_eq C (tgt := 2440) dL_law_285 rfl ?_
  exact h F2 hR2
theorem law_c2 {p : Program} {l : Launch} {e : Env} {s : State} {m : MethodId} {below : List Frame} {meth : Method} {c : Code} {b L : Nat} {xs : Nat → Int32} {D : va_G} {ad : Nat → Nat} {cA : Nat → ClassId} {Q : State → Prop} {RR : Mem → Prop} (C : LX p s m meth c b L xs D ad cA) {i : Nat} {F : Mem} (hi : i + 8 < L) (hR : RR F) (hp : pcase RR gX9_text gX10_text [vI (xs (i + 1)).toInt, vI (xs (i + 2)).toInt]) (h : ∀ F', RR F' → LWP p l e s m below meth c b D ad cA Q 2440 i [] F') : LWP p l e s m below meth c b D ad cA Q 290 i [] F := by
  refine lwp_mok (fun hm => ?_)
  obtain ⟨z, F1, F2, g1, g2, hR2⟩ := hp F hR hm
  refine l_x C dL_law_290 ?_
  refine l_arg C (k := 1) dL_law_291 dL_law_292 dL_law_293 dL_law_294 dL_law_295 (by omega) ?_
  refine l_arg C (k := 2) dL_law_296 dL_law_297 dL_law_298 dL_law_299 dL_law_300 (by omega) ?_
  refine l_callV C (As := [vI (xs (i + 1)).toInt, vI (xs (i + 2)).toInt]) (rest := []) dL_law_301 clL_23 k9 rfl g1 rfl (Nat.zero_le _) ?_
  refine l_m C dL_law_304 ?_
  refine l_arg C (k := 1) dL_law_305 dL_law_306 dL_law_307 dL_law_308 dL_law_309 (by omega) ?_
  refine l_arg C (k := 2) dL_law_310 dL_law_311 dL_law_312 dL_law_313 dL_law_314 (by omega) ?_
  refine l_callV C (As := [vI (xs (i + 1)).toInt, vI (xs (i + 2)).toInt]) (rest := [vI z]) dL_law_315 clL_27 k10 rfl g2 rfl (xcI z) ?_
  refine l_eq C (tgt := 2440) dL_law_318 rfl ?_
  exact h F2 hR2
theorem law_c3 {p : Program} {l : Launch} {e : Env} {s : State} {m : MethodId} {below : List Frame} {meth : Method} {c : Code} {b L : Nat} {xs : Nat → Int32} {D : va_G} {ad : Nat → Nat} {cA : Nat → ClassId} {Q : State → Prop} {RR : Mem → Prop} (C : LX p s m meth c b L xs D ad cA) {i : Nat} {F : Mem} (hi : i + 8 < L) (hR : RR F) (hp : pcase RR gX9_fault gX10_fault [vI (xs (i + 1)).toInt]) (h : ∀ F', RR F' → LWP p l e s m below meth c b D ad cA Q 2440 i [] F') : LWP p l e s m below meth c b D ad cA Q 323 i [] F := by
  refine lwp_mok (fun hm => ?_)
  obtain ⟨z, F1, F2, g1, g2, hR2⟩ := hp F hR hm
  refine l_x C dL_law_323 ?_
  refine l_arg C (k := 1) dL_law_324 dL_law_325 dL_law_326 dL_law_327 dL_law_328 (by omega) ?_
  refine l_callV C (As := [vI (xs (i + 1)).toInt]) (rest := []) dL_law_329 clL_28 k9 rfl g1 rfl (Nat.zero_le _) ?_
  refine l_m C dL_law_332 ?_
  refine l_arg C (k := 1) dL_law_333 dL_law_334 dL_law_335 dL_law_336 dL_law_337 (by omega) ?_
  refine l_callV C (As := [vI (xs (i + 1)).toInt]) (rest := [vI z]) dL_law_338 clL_31 k10 rfl g2 rfl (xcI z) ?_
  refine l_eq C (tgt := 2440) dL_law_341 rfl ?_
  exact h F2 hR2
theorem law_c4 {p : Program} {l : Launch} {e : Env} {s : State} {m : MethodId} {below : List Frame} {meth : Method} {c : Code} {b L : Nat} {xs : Nat → Int32} {D : va_G} {ad : Nat → Nat} {cA : Nat → ClassId} {Q : State → Prop} {RR : Mem → Prop} (C : LX p s m meth c b L xs D ad cA) {i : Nat} {F : Mem} (hi : i + 8 < L) (hR : RR F) (hp : pcase RR gX9_valley gX10_valley [vI (xs (i + 1)).toInt, vI (xs (i + 2)).toInt]) (h : ∀ F', RR F' → LWP p l e s m below meth c b D ad cA Q 2440 i [] F') : LWP p l e s m below meth c b D ad cA Q 346 i [] F := by
  refine lwp_mok (fun hm => ?_)
  obtain ⟨z, F1, F2, g1, g2, hR2⟩ := hp F hR hm
  refine l_x C dL_law_346 ?_
  refine l_arg C (k := 1) dL_law_347 dL_law_348 dL_law_349 dL_law_350 dL_law_351 (by omega) ?_
  refine l_arg C (k := 2) dL_law_352 dL_law_353 dL_law_354 dL_law_355 dL_law_356 (by omega) ?_
  refine l_callV C (As := [vI (xs (i + 1)).toInt, vI (xs (i + 2)).toInt]) (rest := []) dL_law_357 clL_32 k9 rfl g1 rfl (Nat.zero_le _) ?_
  refine l_m C dL_law_360 ?_
  refine l_arg C (k := 1) dL_law_361 dL_law_362 dL_law_363 dL_law_364 dL_law_365 (by omega) ?_
  refine l_arg C (k := 2) dL_law_366 dL_law_367 dL_law_368 dL_law_369 dL_law_370 (by omega) ?_
  refine l_callV C (As := [vI (xs (i + 1)).toInt, vI (xs (i + 2)).toInt]) (rest := [vI z]) dL_law_371 clL_35 k10 rfl g2 rfl (xcI z) ?_
  refine l_eq C (tgt := 2440) dL_law_374 rfl ?_
  exact h F2 hR2
theorem law_c5 {p : Program} {l : Launch} {e : Env} {s : State} {m : MethodId} {below : List Frame} {meth : Method} {c : Code} {b L : Nat} {xs : Nat → Int32} {D : va_G} {ad : Nat → Nat} {cA : Nat → ClassId} {Q : State → Prop} {RR : Mem → Prop} (C : LX p s m meth c b L xs D ad cA) {i : Nat} {F : Mem} (hi : i + 8 < L) (hR : RR F) (hp : pcase RR gX9_house gX10_house [vI (xs (i + 1)).toInt, vI (xs (i + 2)).toInt, vI (xs (i + 3)).toInt]) (h : ∀ F', RR F' → LWP p l e s m below meth c b D ad cA Q 2440 i [] F') : LWP p l e s m below meth c b D ad cA Q 379 i [] F := by
  refine lwp_mok (fun hm => ?_)
  obtain ⟨z, F1, F2, g1, g2, hR2⟩ := hp F hR hm
  refine l_x C dL_law_379 ?_
  refine l_arg C (k := 1) dL_law_380 dL_law_381 dL_law_382 dL_law_383 dL_law_384 (by omega) ?_
  refine l_arg C (k := 2) dL_law_385 dL_law_386 dL_law_387 dL_law_388 dL_law_389 (by omega) ?_
  refine l_arg C (k := 3) dL_law_390 dL_law_391 dL_law_392 dL_law_393 dL_law_394 (by omega) ?_
  refine l_callV C (As := [vI (xs (i + 1)).toInt, vI (xs (i + 2)).toInt, vI (xs (i + 3)).toInt]) (rest := []) dL_law_395 clL_36 k9 rfl g1 rfl (Nat.zero_le _) ?_
  refine l_m C dL_law_398 ?_
  refine l_arg C (k := 1) dL_law_399 dL_law_400 dL_law_401 dL_law_402 dL_law_403 (by omega) ?_
  refine l_arg C (k := 2) dL_law_404 dL_law_405 dL_law_406 dL_law_407 dL_law_408 (by omega) ?_
  refine l_arg C (k := 3) dL_law_409 dL_law_410 dL_law_411 dL_law_412 dL_law_413 (by omega) ?_
  refine l_callV C (As := [vI (xs (i + 1)).toInt, vI (xs (i + 2)).toInt, vI (xs (i + 3)).toInt]) (rest := [vI z]) dL_law_414 clL_40 k10 rfl g2 rfl (xcI z) ?_
  refine l_eq C (tgt := 2440) dL_law_417 rfl ?_
  exact h F2 hR2
theorem law_c6 {p : Program} {l : Launch} {e : Env} {s : State} {m : MethodId} {below : List Frame} {meth : Method} {c : Code} {b L : Nat} {xs : Nat → Int32} {D : va_G} {ad : Nat → Nat} {cA : Nat → ClassId} {Q : State → Prop} {RR : Mem → Prop} (C : LX p s m meth c b L xs D ad cA) {i : Nat} {F : Mem} (hi : i + 8 < L) (hR : RR F) (hp : pcase RR gX9_way gX10_way [vI (xs (i + 1)).toInt, vI (xs (i + 2)).toInt, vI (xs (i + 3)).toInt, vI (if (xs (i + 4)).toInt = 0 then 0 else 1)]) (h : ∀ F', RR F' → LWP p l e s m below meth c b D ad cA Q 2440 i [] F') : LWP p l e s m below meth c b D ad cA Q 422 i [] F := by
  refine lwp_mok (fun hm => ?_)
  obtain ⟨z, F1, F2, g1, g2, hR2⟩ := hp F hR hm
  refine l_x C dL_law_422 ?_
  refine l_arg C (k := 1) dL_law_423 dL_law_424 dL_law_425 dL_law_426 dL_law_427 (by omega) ?_
  refine l_arg C (k := 2) dL_law_428 dL_law_429 dL_law_430 dL_law_431 dL_law_432 (by omega) ?_
  refine l_arg C (k := 3) dL_law_433 dL_law_434 dL_law_435 dL_law_436 dL_law_437 (by omega) ?_
  refine l_arg C (k := 4) dL_law_438 dL_law_439 dL_law_440 dL_law_441 dL_law_442 (by omega) ?_
  refine l_bool C dL_law_443 dL_law_446 dL_law_447 dL_law_450 ?_
  refine l_callV C (As := [vI (xs (i + 1)).toInt, vI (xs (i + 2)).toInt, vI (xs (i + 3)).toInt, vI (if (xs (i + 4)).toInt = 0 then 0 else 1)]) (rest := []) dL_law_451 clL_41 k9 rfl g1 rfl (Nat.zero_le _) ?_
  refine l_m C dL_law_454 ?_
  refine l_arg C (k := 1) dL_law_455 dL_law_456 dL_law_457 dL_law_458 dL_law_459 (by omega) ?_
  refine l_arg C (k := 2) dL_law_460 dL_law_461 dL_law_462 dL_law_463 dL_law_464 (by omega) ?_
  refine l_arg C (k := 3) dL_law_465 dL_law_466 dL_law_467 dL_law_468 dL_law_469 (by omega) ?_
  refine l_arg C (k := 4) dL_law_470 dL_law_471 dL_law_472 dL_law_473 dL_law_474 (by omega) ?_
  refine l_bool C dL_law_475 dL_law_478 dL_law_479 dL_law_482 ?_
  refine l_callV C (As := [vI (xs (i + 1)).toInt, vI (xs (i + 2)).toInt, vI (xs (i + 3)).toInt, vI (if (xs (i + 4)).toInt = 0 then 0 else 1)]) (rest := [vI z]) dL_law_483 clL_45 k10 rfl g2 rfl (xcI z) ?_
  refine l_eq C (tgt := 2440) dL_law_486 rfl ?_
  exact h F2 hR2
theorem law_c7 {p : Program} {l : Launch} {e : Env} {s : State} {m : MethodId} {below : List Frame} {meth : Method} {c : Code} {b L : Nat} {xs : Nat → Int32} {D : va_G} {ad : Nat → Nat} {cA : Nat → ClassId} {Q : State → Prop} {RR : Mem → Prop} (C : LX p s m meth c b L xs D ad cA) {i : Nat} {F : Mem} (hi : i + 8 < L) (hR : RR F) (hp : pcase RR gX9_leg gX10_leg [vI (xs (i + 1)).toInt, vI (xs (i + 2)).toInt, vI (xs (i + 3)).toInt]) (h : ∀ F', RR F' → LWP p l e s m below meth c b D ad cA Q 2440 i [] F') : LWP p l e s m below meth c b D ad cA Q 491 i [] F := by
  refine lwp_mok (fun hm => ?_)
  obtain ⟨z, F1, F2, g1, g2, hR2⟩ := hp F hR hm
  refine l_x C dL_law_491 ?_
  refine l_arg C (k := 1) dL_law_492 dL_law_493 dL_law_494 dL_law_495 dL_law_496 (by omega) ?_
  refine l_arg C (k := 2) dL_law_497 dL_law_498 dL_law_499 dL_law_500 dL_law_501 (by omega) ?_
  refine l_arg C (k := 3) dL_law_502 dL_law_503 dL_law_504 dL_law_505 dL_law_506 (by omega) ?_
  refine l_callV C (As := [vI (xs (i + 1)).toInt, vI (xs (i + 2)).toInt, vI (xs (i + 3)).toInt]) (rest := []) dL_law_507 clL_46 k9 rfl g1 rfl (Nat.zero_le _) ?_
  refine l_m C dL_law_510 ?_
  refine l_arg C (k := 1) dL_law_511 dL_law_512 dL_law_513 dL_law_514 dL_law_515 (by omega) ?_
  refine l_arg C (k := 2) dL_law_516 dL_law_517 dL_law_518 dL_law_519 dL_law_520 (by omega) ?_
  refine l_arg C (k := 3) dL_law_521 dL_law_522 dL_law_523 dL_law_524 dL_law_525 (by omega) ?_
  refine l_callV C (As := [vI (xs (i + 1)).toInt, vI (xs (i + 2)).toInt, vI (xs (i + 3)).toInt]) (rest := [vI z]) dL_law_526 clL_49 k10 rfl g2 rfl (xcI z) ?_
  refine l_eq C (tgt := 2440) dL_law_529 rfl ?_
  exact h F2 hR2
theorem law_c8 {p : Program} {l : Launch} {e : Env} {s : State} {m : MethodId} {below : List Frame} {meth : Method} {c : Code} {b L : Nat} {xs : Nat → Int32} {D : va_G} {ad : Nat → Nat} {cA : Nat → ClassId} {Q : State → Prop} {RR : Mem → Prop} (C : LX p s m meth c b L xs D ad cA) {i : Nat} {F : Mem} (hi : i + 8 < L) (hR : RR F) (hp : pcase RR gX9_play gX10_play [vI (xs (i + 1)).toInt, vI (xs (i + 2)).toInt, vI (xs (i + 3)).toInt]) (h : ∀ F', RR F' → LWP p l e s m below meth c b D ad cA Q 2440 i [] F') : LWP p l e s m below meth c b D ad cA Q 534 i [] F := by
  refine lwp_mok (fun hm => ?_)
  obtain ⟨z, F1, F2, g1, g2, hR2⟩ := hp F hR hm
  refine l_x C dL_law_534 ?_
  refine l_arg C (k := 1) dL_law_535 dL_law_536 dL_law_537 dL_law_538 dL_law_539 (by omega) ?_
  refine l_arg C (k := 2) dL_law_540 dL_law_541 dL_law_542 dL_law_543 dL_law_544 (by omega) ?_
  refine l_arg C (k := 3) dL_law_545 dL_law_546 dL_law_547 dL_law_548 dL_law_549 (by omega) ?_
  refine l_callV C (As := [vI (xs (i + 1)).toInt, vI (xs (i + 2)).toInt, vI (xs (i + 3)).toInt]) (rest := []) dL_law_550 clL_50 k9 rfl g1 rfl (Nat.zero_le _) ?_
  refine l_m C dL_law_553 ?_
  refine l_arg C (k := 1) dL_law_554 dL_law_555 dL_law_556 dL_law_557 dL_law_558 (by omega) ?_
  refine l_arg C (k := 2) dL_law_559 dL_law_560 dL_law_561 dL_law_562 dL_law_563 (by omega) ?_
  refine l_arg C (k := 3) dL_law_564 dL_law_565 dL_law_566 dL_law_567 dL_law_568 (by omega) ?_
  refine l_callV C (As := [vI (xs (i + 1)).toInt, vI (xs (i + 2)).toInt, vI (xs (i + 3)).toInt]) (rest := [vI z]) dL_law_569 clL_53 k10 rfl g2 rfl (xcI z) ?_
  refine l_eq C (tgt := 2440) dL_law_572 rfl ?_
  exact h F2 hR2
theorem law_c9 {p : Program} {l : Launch} {e : Env} {s : State} {m : MethodId} {below : List Frame} {meth : Method} {c : Code} {b L : Nat} {xs : Nat → Int32} {D : va_G} {ad : Nat → Nat} {cA : Nat → ClassId} {Q : State → Prop} {RR : Mem → Prop} (C : LX p s m meth c b L xs D ad cA) {i : Nat} {F : Mem} (hi : i + 8 < L) (hR : RR F) (hp : pcase RR gX9_where gX10_where [vI (xs (i + 1)).toInt, vI (xs (i + 2)).toInt, vI (xs (i + 3)).toInt]) (h : ∀ F', RR F' → LWP p l e s m below meth c b D ad cA Q 2440 i [] F') : LWP p l e s m below meth c b D ad cA Q 577 i [] F := by
  refine lwp_mok (fun hm => ?_)
  obtain ⟨z, F1, F2, g1, g2, hR2⟩ := hp F hR hm
  refine l_x C dL_law_577 ?_
  refine l_arg C (k := 1) dL_law_578 dL_law_579 dL_law_580 dL_law_581 dL_law_582 (by omega) ?_
  refine l_arg C (k := 2) dL_law_583 dL_law_584 dL_law_585 dL_law_586 dL_law_587 (by omega) ?_
  refine l_arg C (k := 3) dL_law_588 dL_law_589 dL_law_590 dL_law_591 dL_law_592 (by omega) ?_
  refine l_callV C (As := [vI (xs (i + 1)).toInt, vI (xs (i + 2)).toInt, vI (xs (i + 3)).toInt]) (rest := []) dL_law_593 clL_54 k9 rfl g1 rfl (Nat.zero_le _) ?_
  refine l_m C dL_law_596 ?_
  refine l_arg C (k := 1) dL_law_597 dL_law_598 dL_law_599 dL_law_600 dL_law_601 (by omega) ?_
  refine l_arg C (k := 2) dL_law_602 dL_law_603 dL_law_604 dL_law_605 dL_law_606 (by omega) ?_
  refine l_arg C (k := 3) dL_law_607 dL_law_608 dL_law_609 dL_law_610 dL_law_611 (by omega) ?_
  refine l_callV C (As := [vI (xs (i + 1)).toInt, vI (xs (i + 2)).toInt, vI (xs (i + 3)).toInt]) (rest := [vI z]) dL_law_612 clL_57 k10 rfl g2 rfl (xcI z) ?_
  refine l_eq C (tgt := 2440) dL_law_615 rfl ?_
  exact h F2 hR2
theorem law_c10 {p : Program} {l : Launch} {e : Env} {s : State} {m : MethodId} {below : List Frame} {meth : Method} {c : Code} {b L : Nat} {xs : Nat → Int32} {D : va_G} {ad : Nat → Nat} {cA : Nat → ClassId} {Q : State → Prop} {RR : Mem → Prop} (C : LX p s m meth c b L xs D ad cA) {i : Nat} {F : Mem} (hi : i + 8 < L) (hR : RR F) (hp : pcase RR gX9_row gX10_row [vI (xs (i + 1)).toInt, vI (xs (i + 2)).toInt, vI (xs (i + 3)).toInt, vI (xs (i + 4)).toInt, vI (xs (i + 5)).toInt]) (h : ∀ F', RR F' → LWP p l e s m below meth c b D ad cA Q 2440 i [] F') : LWP p l e s m below meth c b D ad cA Q 620 i [] F := by
  refine lwp_mok (fun hm => ?_)
  obtain ⟨z, F1, F2, g1, g2, hR2⟩ := hp F hR hm
  refine l_x C dL_law_620 ?_
  refine l_arg C (k := 1) dL_law_621 dL_law_622 dL_law_623 dL_law_624 dL_law_625 (by omega) ?_
  refine l_arg C (k := 2) dL_law_626 dL_law_627 dL_law_628 dL_law_629 dL_law_630 (by omega) ?_
  refine l_arg C (k := 3) dL_law_631 dL_law_632 dL_law_633 dL_law_634 dL_law_635 (by omega) ?_
  refine l_arg C (k := 4) dL_law_636 dL_law_637 dL_law_638 dL_law_639 dL_law_640 (by omega) ?_
  refine l_arg C (k := 5) dL_law_641 dL_law_642 dL_law_643 dL_law_644 dL_law_645 (by omega) ?_
  refine l_callV C (As := [vI (xs (i + 1)).toInt, vI (xs (i + 2)).toInt, vI (xs (i + 3)).toInt, vI (xs (i + 4)).toInt, vI (xs (i + 5)).toInt]) (rest := []) dL_law_646 clL_58 k9 rfl g1 rfl (Nat.zero_le _) ?_
  refine l_m C dL_law_649 ?_
  refine l_arg C (k := 1) dL_law_650 dL_law_651 dL_law_652 dL_law_653 dL_law_654 (by omega) ?_
  refine l_arg C (k := 2) dL_law_655 dL_law_656 dL_law_657 dL_law_658 dL_law_659 (by omega) ?_
  refine l_arg C (k := 3) dL_law_660 dL_law_661 dL_law_662 dL_law_663 dL_law_664 (by omega) ?_
  refine l_arg C (k := 4) dL_law_665 dL_law_666 dL_law_667 dL_law_668 dL_law_669 (by omega) ?_
  refine l_arg C (k := 5) dL_law_670 dL_law_671 dL_law_672 dL_law_673 dL_law_674 (by omega) ?_
  refine l_callV C (As := [vI (xs (i + 1)).toInt, vI (xs (i + 2)).toInt, vI (xs (i + 3)).toInt, vI (xs (i + 4)).toInt, vI (xs (i + 5)).toInt]) (rest := [vI z]) dL_law_675 clL_61 k10 rfl g2 rfl (xcI z) ?_
  refine l_eq C (tgt := 2440) dL_law_678 rfl ?_
  exact h F2 hR2
theorem law_c11 {p : Program} {l : Launch} {e : Env} {s : State} {m : MethodId} {below : List Frame} {meth : Method} {c : Code} {b L : Nat} {xs : Nat → Int32} {D : va_G} {ad : Nat → Nat} {cA : Nat → ClassId} {Q : State → Prop} {RR : Mem → Prop} (C : LX p s m meth c b L xs D ad cA) {i : Nat} {F : Mem} (hi : i + 8 < L) (hR : RR F) (hp : pcase RR gX9_rows gX10_rows_ [vI (xs (i + 1)).toInt, vI (xs (i + 2)).toInt, vI (xs (i + 3)).toInt, vI (xs (i + 4)).toInt]) (h : ∀ F', RR F' → LWP p l e s m below meth c b D ad cA Q 2440 i [] F') : LWP p l e s m below meth c b D ad cA Q 683 i [] F := by
  refine lwp_mok (fun hm => ?_)
  obtain ⟨z, F1, F2, g1, g2, hR2⟩ := hp F hR hm
  refine l_x C dL_law_683 ?_
  refine l_arg C (k := 1) dL_law_684 dL_law_685 dL_law_686 dL_law_687 dL_law_688 (by omega) ?_
  refine l_arg C (k := 2) dL_law_689 dL_law_690 dL_law_691 dL_law_692 dL_law_693 (by omega) ?_
  refine l_arg C (k := 3) dL_law_694 dL_law_695 dL_law_696 dL_law_697 dL_law_698 (by omega) ?_
  refine l_arg C (k := 4) dL_law_699 dL_law_700 dL_law_701 dL_law_702 dL_law_703 (by omega) ?_
  refine l_callV C (As := [vI (xs (i + 1)).toInt, vI (xs (i + 2)).toInt, vI (xs (i + 3)).toInt, vI (xs (i + 4)).toInt]) (rest := []) dL_law_704 clL_62 k9 rfl g1 rfl (Nat.zero_le _) ?_
  refine l_m C dL_law_707 ?_
  refine l_arg C (k := 1) dL_law_708 dL_law_709 dL_law_710 dL_law_711 dL_law_712 (by omega) ?_
  refine l_arg C (k := 2) dL_law_713 dL_law_714 dL_law_715 dL_law_716 dL_law_717 (by omega) ?_
  refine l_arg C (k := 3) dL_law_718 dL_law_719 dL_law_720 dL_law_721 dL_law_722 (by omega) ?_
  refine l_arg C (k := 4) dL_law_723 dL_law_724 dL_law_725 dL_law_726 dL_law_727 (by omega) ?_
  refine l_callV C (As := [vI (xs (i + 1)).toInt, vI (xs (i + 2)).toInt, vI (xs (i + 3)).toInt, vI (xs (i + 4)).toInt]) (rest := [vI z]) dL_law_728 clL_66 k10 rfl g2 rfl (xcI z) ?_
  refine l_eq C (tgt := 2440) dL_law_731 rfl ?_
  exact h F2 hR2
theorem law_c12 {p : Program} {l : Launch} {e : Env} {s : State} {m : MethodId} {below : List Frame} {meth : Method} {c : Code} {b L : Nat} {xs : Nat → Int32} {D : va_G} {ad : Nat → Nat} {cA : Nat → ClassId} {Q : State → Prop} {RR : Mem → Prop} (C : LX p s m meth c b L xs D ad cA) {i : Nat} {F : Mem} (hi : i + 8 < L) (hR : RR F) (hp : pcase RR gX9_deed gX10_deed [vI (xs (i + 1)).toInt, vI (xs (i + 2)).toInt, vI (xs (i + 3)).toInt]) (h : ∀ F', RR F' → LWP p l e s m below meth c b D ad cA Q 2440 i [] F') : LWP p l e s m below meth c b D ad cA Q 736 i [] F := by
  refine lwp_mok (fun hm => ?_)
  obtain ⟨z, F1, F2, g1, g2, hR2⟩ := hp F hR hm
  refine l_x C dL_law_736 ?_
  refine l_arg C (k := 1) dL_law_737 dL_law_738 dL_law_739 dL_law_740 dL_law_741 (by omega) ?_
  refine l_arg C (k := 2) dL_law_742 dL_law_743 dL_law_744 dL_law_745 dL_law_746 (by omega) ?_
  refine l_arg C (k := 3) dL_law_747 dL_law_748 dL_law_749 dL_law_750 dL_law_751 (by omega) ?_
  refine l_callV C (As := [vI (xs (i + 1)).toInt, vI (xs (i + 2)).toInt, vI (xs (i + 3)).toInt]) (rest := []) dL_law_752 clL_67 k9 rfl g1 rfl (Nat.zero_le _) ?_
  refine l_m C dL_law_755 ?_
  refine l_arg C (k := 1) dL_law_756 dL_law_757 dL_law_758 dL_law_759 dL_law_760 (by omega) ?_
  refine l_arg C (k := 2) dL_law_761 dL_law_762 dL_law_763 dL_law_764 dL_law_765 (by omega) ?_
  refine l_arg C (k := 3) dL_law_766 dL_law_767 dL_law_768 dL_law_769 dL_law_770 (by omega) ?_
  refine l_callV C (As := [vI (xs (i + 1)).toInt, vI (xs (i + 2)).toInt, vI (xs (i + 3)).toInt]) (rest := [vI z]) dL_law_771 clL_70 k10 rfl g2 rfl (xcI z) ?_
  refine l_eq C (tgt := 2440) dL_law_774 rfl ?_
  exact h F2 hR2
theorem law_c13 {p : Program} {l : Launch} {e : Env} {s : State} {m : MethodId} {below : List Frame} {meth : Method} {c : Code} {b L : Nat} {xs : Nat → Int32} {D : va_G} {ad : Nat → Nat} {cA : Nat → ClassId} {Q : State → Prop} {RR : Mem → Prop} (C : LX p s m meth c b L xs D ad cA) {i : Nat} {F : Mem} (hi : i + 8 < L) (hR : RR F) (hp : pcase RR gX9_stop gX10_stop [vI (xs (i + 1)).toInt]) (h : ∀ F', RR F' → LWP p l e s m below meth c b D ad cA Q 2440 i [] F') : LWP p l e s m below meth c b D ad cA Q 779 i [] F := by
  refine lwp_mok (fun hm => ?_)
  obtain ⟨z, F1, F2, g1, g2, hR2⟩ := hp F hR hm
  refine l_x C dL_law_779 ?_
  refine l_arg C (k := 1) dL_law_780 dL_law_781 dL_law_782 dL_law_783 dL_law_784 (by omega) ?_
  refine l_callV C (As := [vI (xs (i + 1)).toInt]) (rest := []) dL_law_785 clL_71 k9 rfl g1 rfl (Nat.zero_le _) ?_
  refine l_m C dL_law_788 ?_
  refine l_arg C (k := 1) dL_law_789 dL_law_790 dL_law_791 dL_law_792 dL_law_793 (by omega) ?_
  refine l_callV C (As := [vI (xs (i + 1)).toInt]) (rest := [vI z]) dL_law_794 clL_74 k10 rfl g2 rfl (xcI z) ?_
  refine l_eq C (tgt := 2440) dL_law_797 rfl ?_
  exact h F2 hR2
theorem law_c14 {p : Program} {l : Launch} {e : Env} {s : State} {m : MethodId} {below : List Frame} {meth : Method} {c : Code} {b L : Nat} {xs : Nat → Int32} {D : va_G} {ad : Nat → Nat} {cA : Nat → ClassId} {Q : State → Prop} {RR : Mem → Prop} (C : LX p s m meth c b L xs D ad cA) {i : Nat} {F : Mem} (hi : i + 8 < L) (hR : RR F) (hp : pcase RR gX9_owner gX10_owner [vI (xs (i + 1)).toInt, vI (xs (i + 2)).toInt, vI (xs (i + 3)).toInt, vI (xs (i + 4)).toInt, vI (if (xs (i + 5)).toInt = 0 then 0 else 1)]) (h : ∀ F', RR F' → LWP p l e s m below meth c b D ad cA Q 2440 i [] F') : LWP p l e s m below meth c b D ad cA Q 802 i [] F := by
  refine lwp_mok (fun hm => ?_)
  obtain ⟨z, F1, F2, g1, g2, hR2⟩ := hp F hR hm
  refine l_x C dL_law_802 ?_
  refine l_arg C (k := 1) dL_law_803 dL_law_804 dL_law_805 dL_law_806 dL_law_807 (by omega) ?_
  refine l_arg C (k := 2) dL_law_808 dL_law_809 dL_law_810 dL_law_811 dL_law_812 (by omega) ?_
  refine l_arg C (k := 3) dL_law_813 dL_law_814 dL_law_815 dL_law_816 dL_law_817 (by omega) ?_
  refine l_arg C (k := 4) dL_law_818 dL_law_819 dL_law_820 dL_law_821 dL_law_822 (by omega) ?_
  refine l_arg C (k := 5) dL_law_823 dL_law_824 dL_law_825 dL_law_826 dL_law_827 (by omega) ?_
  refine l_bool C dL_law_828 dL_law_831 dL_law_832 dL_law_835 ?_
  refine l_callV C (As := [vI (xs (i + 1)).toInt, vI (xs (i + 2)).toInt, vI (xs (i + 3)).toInt, vI (xs (i + 4)).toInt, vI (if (xs (i + 5)).toInt = 0 then 0 else 1)]) (rest := []) dL_law_836 clL_75 k9 rfl g1 rfl (Nat.zero_le _) ?_
  refine l_m C dL_law_839 ?_
  refine l_arg C (k := 1) dL_law_840 dL_law_841 dL_law_842 dL_law_843 dL_law_844 (by omega) ?_
  refine l_arg C (k := 2) dL_law_845 dL_law_846 dL_law_847 dL_law_848 dL_law_849 (by omega) ?_
  refine l_arg C (k := 3) dL_law_850 dL_law_851 dL_law_852 dL_law_853 dL_law_854 (by omega) ?_
  refine l_arg C (k := 4) dL_law_855 dL_law_856 dL_law_857 dL_law_858 dL_law_859 (by omega) ?_
  refine l_arg C (k := 5) dL_law_860 dL_law_861 dL_law_862 dL_law_863 dL_law_864 (by omega) ?_
  refine l_bool C dL_law_865 dL_law_868 dL_law_869 dL_law_872 ?_
  refine l_callV C (As := [vI (xs (i + 1)).toInt, vI (xs (i + 2)).toInt, vI (xs (i + 3)).toInt, vI (xs (i + 4)).toInt, vI (if (xs (i + 5)).toInt = 0 then 0 else 1)]) (rest := [vI z]) dL_law_873 clL_79 k10 rfl g2 rfl (xcI z) ?_
  refine l_eq C (tgt := 2440) dL_law_876 rfl ?_
  exact h F2 hR2
theorem law_c15 {p : Program} {l : Launch} {e : Env} {s : State} {m : MethodId} {below : List Frame} {meth : Method} {c : Code} {b L : Nat} {xs : Nat → Int32} {D : va_G} {ad : Nat → Nat} {cA : Nat → ClassId} {Q : State → Prop} {RR : Mem → Prop} (C : LX p s m meth c b L xs D ad cA) {i : Nat} {F : Mem} (hi : i + 8 < L) (hR : RR F) (hp : pcase RR gX9_has gX10_has [vI (xs (i + 1)).toInt, vI (xs (i + 2)).toInt, vI (xs (i + 3)).toInt, vI (xs (i + 4)).toInt]) (h : ∀ F', RR F' → LWP p l e s m below meth c b D ad cA Q 2440 i [] F') : LWP p l e s m below meth c b D ad cA Q 881 i [] F := by
  refine lwp_mok (fun hm => ?_)
  obtain ⟨z, F1, F2, g1, g2, hR2⟩ := hp F hR hm
  refine l_x C dL_law_881 ?_
  refine l_arg C (k := 1) dL_law_882 dL_law_883 dL_law_884 dL_law_885 dL_law_886 (by omega) ?_
  refine l_arg C (k := 2) dL_law_887 dL_law_888 dL_law_889 dL_law_890 dL_law_891 (by omega) ?_
  refine l_arg C (k := 3) dL_law_892 dL_law_893 dL_law_894 dL_law_895 dL_law_896 (by omega) ?_
  refine l_arg C (k := 4) dL_law_897 dL_law_898 dL_law_899 dL_law_900 dL_law_901 (by omega) ?_
  refine l_callV C (As := [vI (xs (i + 1)).toInt, vI (xs (i + 2)).toInt, vI (xs (i + 3)).toInt, vI (xs (i + 4)).toInt]) (rest := []) dL_law_902 clL_80 k9 rfl g1 rfl (Nat.zero_le _) ?_
  refine l_m C dL_law_905 ?_
  refine l_arg C (k := 1) dL_law_906 dL_law_907 dL_law_908 dL_law_909 dL_law_910 (by omega) ?_
  refine l_arg C (k := 2) dL_law_911 dL_law_912 dL_law_913 dL_law_914 dL_law_915 (by omega) ?_
  refine l_arg C (k := 3) dL_law_916 dL_law_917 dL_law_918 dL_law_919 dL_law_920 (by omega) ?_
  refine l_arg C (k := 4) dL_law_921 dL_law_922 dL_law_923 dL_law_924 dL_law_925 (by omega) ?_
  refine l_callV C (As := [vI (xs (i + 1)).toInt, vI (xs (i + 2)).toInt, vI (xs (i + 3)).toInt, vI (xs (i + 4)).toInt]) (rest := [vI z]) dL_law_926 clL_83 k10 rfl g2 rfl (xcI z) ?_
  refine l_eq C (tgt := 2440) dL_law_929 rfl ?_
  exact h F2 hR2
theorem law_c16 {p : Program} {l : Launch} {e : Env} {s : State} {m : MethodId} {below : List Frame} {meth : Method} {c : Code} {b L : Nat} {xs : Nat → Int32} {D : va_G} {ad : Nat → Nat} {cA : Nat → ClassId} {Q : State → Prop} {RR : Mem → Prop} (C : LX p s m meth c b L xs D ad cA) {i : Nat} {F : Mem} (hi : i + 8 < L) (hR : RR F) (hp : pcase RR gX9_lawful gX10_lawful [vI (xs (i + 1)).toInt, vI (xs (i + 2)).toInt, vI (xs (i + 3)).toInt, vI (xs (i + 4)).toInt, vI (xs (i + 5)).toInt]) (h : ∀ F', RR F' → LWP p l e s m below meth c b D ad cA Q 2440 i [] F') : LWP p l e s m below meth c b D ad cA Q 934 i [] F := by
  refine lwp_mok (fun hm => ?_)
  obtain ⟨z, F1, F2, g1, g2, hR2⟩ := hp F hR hm
  refine l_x C dL_law_934 ?_
  refine l_arg C (k := 1) dL_law_935 dL_law_936 dL_law_937 dL_law_938 dL_law_939 (by omega) ?_
  refine l_arg C (k := 2) dL_law_940 dL_law_941 dL_law_942 dL_law_943 dL_law_944 (by omega) ?_
  refine l_arg C (k := 3) dL_law_945 dL_law_946 dL_law_947 dL_law_948 dL_law_949 (by omega) ?_
  refine l_arg C (k := 4) dL_law_950 dL_law_951 dL_law_952 dL_law_953 dL_law_954 (by omega) ?_
  refine l_arg C (k := 5) dL_law_955 dL_law_956 dL_law_957 dL_law_958 dL_law_959 (by omega) ?_
  refine l_callV C (As := [vI (xs (i + 1)).toInt, vI (xs (i + 2)).toInt, vI (xs (i + 3)).toInt, vI (xs (i + 4)).toInt, vI (xs (i + 5)).toInt]) (rest := []) dL_law_960 clL_84 k9 rfl g1 rfl (Nat.zero_le _) ?_
  refine l_m C dL_law_963 ?_
  refine l_arg C (k := 1) dL_law_964 dL_law_965 dL_law_966 dL_law_967 dL_law_968 (by omega) ?_
  refine l_arg C (k := 2) dL_law_969 dL_law_970 dL_law_971 dL_law_972 dL_law_973 (by omega) ?_
  refine l_arg C (k := 3) dL_law_974 dL_law_975 dL_law_976 dL_law_977 dL_law_978 (by omega) ?_
  refine l_arg C (k := 4) dL_law_979 dL_law_980 dL_law_981 dL_law_982 dL_law_983 (by omega) ?_
  refine l_arg C (k := 5) dL_law_984 dL_law_985 dL_law_986 dL_law_987 dL_law_988 (by omega) ?_
  refine l_callV C (As := [vI (xs (i + 1)).toInt, vI (xs (i + 2)).toInt, vI (xs (i + 3)).toInt, vI (xs (i + 4)).toInt, vI (xs (i + 5)).toInt]) (rest := [vI z]) dL_law_989 clL_87 k10 rfl g2 rfl (xcI z) ?_
  refine l_eq C (tgt := 2440) dL_law_992 rfl ?_
  exact h F2 hR2
theorem law_c17 {p : Program} {l : Launch} {e : Env} {s : State} {m : MethodId} {below : List Frame} {meth : Method} {c : Code} {b L : Nat} {xs : Nat → Int32} {D : va_G} {ad : Nat → Nat} {cA : Nat → ClassId} {Q : State → Prop} {RR : Mem → Prop} (C : LX p s m meth c b L xs D ad cA) {i : Nat} {F : Mem} (hi : i + 8 < L) (hR : RR F) (hp : pcase RR gX9_best gX10_best [vI (xs (i + 1)).toInt, vI (xs (i + 2)).toInt, vI (xs (i + 3)).toInt, vI (xs (i + 4)).toInt, vI (xs (i + 5)).toInt, vI (xs (i + 6)).toInt]) (h : ∀ F', RR F' → LWP p l e s m below meth c b D ad cA Q 2440 i [] F') : LWP p l e s m below meth c b D ad cA Q 997 i [] F := by
  refine lwp_mok (fun hm => ?_)
  obtain ⟨z, F1, F2, g1, g2, hR2⟩ := hp F hR hm
  refine l_x C dL_law_997 ?_
  refine l_arg C (k := 1) dL_law_998 dL_law_999 dL_law_1000 dL_law_1001 dL_law_1002 (by omega) ?_
  refine l_arg C (k := 2) dL_law_1003 dL_law_1004 dL_law_1005 dL_law_1006 dL_law_1007 (by omega) ?_
  refine l_arg C (k := 3) dL_law_1008 dL_law_1009 dL_law_1010 dL_law_1011 dL_law_1012 (by omega) ?_
  refine l_arg C (k := 4) dL_law_1013 dL_law_1014 dL_law_1015 dL_law_1016 dL_law_1017 (by omega) ?_
  refine l_arg C (k := 5) dL_law_1018 dL_law_1019 dL_law_1020 dL_law_1021 dL_law_1022 (by omega) ?_
  refine l_argB C (k := 6) dL_law_1023 dL_law_1024 dL_law_1025 dL_law_1027 dL_law_1028 rfl (by omega) ?_
  refine l_callV C (As := [vI (xs (i + 1)).toInt, vI (xs (i + 2)).toInt, vI (xs (i + 3)).toInt, vI (xs (i + 4)).toInt, vI (xs (i + 5)).toInt, vI (xs (i + 6)).toInt]) (rest := []) dL_law_1029 clL_88 k9 rfl g1 rfl (Nat.zero_le _) ?_
  refine l_m C dL_law_1032 ?_
  refine l_arg C (k := 1) dL_law_1033 dL_law_1034 dL_law_1035 dL_law_1036 dL_law_1037 (by omega) ?_
  refine l_arg C (k := 2) dL_law_1038 dL_law_1039 dL_law_1040 dL_law_1041 dL_law_1042 (by omega) ?_
  refine l_arg C (k := 3) dL_law_1043 dL_law_1044 dL_law_1045 dL_law_1046 dL_law_1047 (by omega) ?_
  refine l_arg C (k := 4) dL_law_1048 dL_law_1049 dL_law_1050 dL_law_1051 dL_law_1052 (by omega) ?_
  refine l_arg C (k := 5) dL_law_1053 dL_law_1054 dL_law_1055 dL_law_1056 dL_law_1057 (by omega) ?_
  refine l_argB C (k := 6) dL_law_1058 dL_law_1059 dL_law_1060 dL_law_1062 dL_law_1063 rfl (by omega) ?_
  refine l_callV C (As := [vI (xs (i + 1)).toInt, vI (xs (i + 2)).toInt, vI (xs (i + 3)).toInt, vI (xs (i + 4)).toInt, vI (xs (i + 5)).toInt, vI (xs (i + 6)).toInt]) (rest := [vI z]) dL_law_1064 clL_92 k10 rfl g2 rfl (xcI z) ?_
  refine l_eq C (tgt := 2440) dL_law_1067 rfl ?_
  exact h F2 hR2
theorem law_c18 {p : Program} {l : Launch} {e : Env} {s : State} {m : MethodId} {below : List Frame} {meth : Method} {c : Code} {b L : Nat} {xs : Nat → Int32} {D : va_G} {ad : Nat → Nat} {cA : Nat → ClassId} {Q : State → Prop} {RR : Mem → Prop} (C : LX p s m meth c b L xs D ad cA) {i : Nat} {F : Mem} (hi : i + 8 < L) (hR : RR F) (hp : pcase RR gX9_spot gX10_spot [vI (xs (i + 1)).toInt, vI (xs (i + 2)).toInt, vI (xs (i + 3)).toInt, vI (xs (i + 4)).toInt, vI (xs (i + 5)).toInt, vI (xs (i + 6)).toInt, vI (xs (i + 7)).toInt]) (h : ∀ F', RR F' → LWP p l e s m below meth c b D ad cA Q 2440 i [] F') : LWP p l e s m below meth c b D ad cA Q 1072 i [] F := by
  refine lwp_mok (fun hm => ?_)
  obtain ⟨z, F1, F2, g1, g2, hR2⟩ := hp F hR hm
  refine l_x C dL_law_1072 ?_
  refine l_arg C (k := 1) dL_law_1073 dL_law_1074 dL_law_1075 dL_law_1076 dL_law_1077 (by omega) ?_
  refine l_arg C (k := 2) dL_law_1078 dL_law_1079 dL_law_1080 dL_law_1081 dL_law_1082 (by omega) ?_
  refine l_arg C (k := 3) dL_law_1083 dL_law_1084 dL_law_1085 dL_law_1086 dL_law_1087 (by omega) ?_
  refine l_arg C (k := 4) dL_law_1088 dL_law_1089 dL_law_1090 dL_law_1091 dL_law_1092 (by omega) ?_
  refine l_arg C (k := 5) dL_law_1093 dL_law_1094 dL_law_1095 dL_law_1096 dL_law_1097 (by omega) ?_
  refine l_argB C (k := 6) dL_law_1098 dL_law_1099 dL_law_1100 dL_law_1102 dL_law_1103 rfl (by omega) ?_
  refine l_argB C (k := 7) dL_law_1104 dL_law_1105 dL_law_1106 dL_law_1108 dL_law_1109 rfl (by omega) ?_
  refine l_callV C (As := [vI (xs (i + 1)).toInt, vI (xs (i + 2)).toInt, vI (xs (i + 3)).toInt, vI (xs (i + 4)).toInt, vI (xs (i + 5)).toInt, vI (xs (i + 6)).toInt, vI (xs (i + 7)).toInt]) (rest := []) dL_law_1110 clL_93 k9 rfl g1 rfl (Nat.zero_le _) ?_
  refine l_m C dL_law_1113 ?_
  refine l_arg C (k := 1) dL_law_1114 dL_law_1115 dL_law_1116 dL_law_1117 dL_law_1118 (by omega) ?_
  refine l_arg C (k := 2) dL_law_1119 dL_law_1120 dL_law_1121 dL_law_1122 dL_law_1123 (by omega) ?_
  refine l_arg C (k := 3) dL_law_1124 dL_law_1125 dL_law_1126 dL_law_1127 dL_law_1128 (by omega) ?_
  refine l_arg C (k := 4) dL_law_1129 dL_law_1130 dL_law_1131 dL_law_1132 dL_law_1133 (by omega) ?_
  refine l_arg C (k := 5) dL_law_1134 dL_law_1135 dL_law_1136 dL_law_1137 dL_law_1138 (by omega) ?_
  refine l_argB C (k := 6) dL_law_1139 dL_law_1140 dL_law_1141 dL_law_1143 dL_law_1144 rfl (by omega) ?_
  refine l_argB C (k := 7) dL_law_1145 dL_law_1146 dL_law_1147 dL_law_1149 dL_law_1150 rfl (by omega) ?_
  refine l_callV C (As := [vI (xs (i + 1)).toInt, vI (xs (i + 2)).toInt, vI (xs (i + 3)).toInt, vI (xs (i + 4)).toInt, vI (xs (i + 5)).toInt, vI (xs (i + 6)).toInt, vI (xs (i + 7)).toInt]) (rest := [vI z]) dL_law_1151 clL_97 k10 rfl g2 rfl (xcI z) ?_
  refine l_eq C (tgt := 2440) dL_law_1154 rfl ?_
  exact h F2 hR2
theorem law_c19 {p : Program} {l : Launch} {e : Env} {s : State} {m : MethodId} {below : List Frame} {meth : Method} {c : Code} {b L : Nat} {xs : Nat → Int32} {D : va_G} {ad : Nat → Nat} {cA : Nat → ClassId} {Q : State → Prop} {RR : Mem → Prop} (C : LX p s m meth c b L xs D ad cA) {i : Nat} {F : Mem} (hi : i + 8 < L) (hR : RR F) (hp : pcase RR gX9_harm gX10_harm [vI (xs (i + 1)).toInt, vI (xs (i + 2)).toInt, vI (xs (i + 3)).toInt, vI (xs (i + 4)).toInt, vI (xs (i + 5)).toInt, vI (xs (i + 6)).toInt, vI (xs (i + 7)).toInt, vI (if (xs (i + 8)).toInt = 0 then 0 else 1)]) (h : ∀ F', RR F' → LWP p l e s m below meth c b D ad cA Q 2440 i [] F') : LWP p l e s m below meth c b D ad cA Q 1159 i [] F := by
  refine lwp_mok (fun hm => ?_)
  obtain ⟨z, F1, F2, g1, g2, hR2⟩ := hp F hR hm
  refine l_x C dL_law_1159 ?_
  refine l_arg C (k := 1) dL_law_1160 dL_law_1161 dL_law_1162 dL_law_1163 dL_law_1164 (by omega) ?_
  refine l_arg C (k := 2) dL_law_1165 dL_law_1166 dL_law_1167 dL_law_1168 dL_law_1169 (by omega) ?_
  refine l_arg C (k := 3) dL_law_1170 dL_law_1171 dL_law_1172 dL_law_1173 dL_law_1174 (by omega) ?_
  refine l_arg C (k := 4) dL_law_1175 dL_law_1176 dL_law_1177 dL_law_1178 dL_law_1179 (by omega) ?_
  refine l_arg C (k := 5) dL_law_1180 dL_law_1181 dL_law_1182 dL_law_1183 dL_law_1184 (by omega) ?_
  refine l_argB C (k := 6) dL_law_1185 dL_law_1186 dL_law_1187 dL_law_1189 dL_law_1190 rfl (by omega) ?_
  refine l_argB C (k := 7) dL_law_1191 dL_law_1192 dL_law_1193 dL_law_1195 dL_law_1196 rfl (by omega) ?_
  refine l_argB C (k := 8) dL_law_1197 dL_law_1198 dL_law_1199 dL_law_1201 dL_law_1202 rfl (by omega) ?_
  refine l_bool C dL_law_1203 dL_law_1206 dL_law_1207 dL_law_1210 ?_
  refine l_callV C (As := [vI (xs (i + 1)).toInt, vI (xs (i + 2)).toInt, vI (xs (i + 3)).toInt, vI (xs (i + 4)).toInt, vI (xs (i + 5)).toInt, vI (xs (i + 6)).toInt, vI (xs (i + 7)).toInt, vI (if (xs (i + 8)).toInt = 0 then 0 else 1)]) (rest := []) dL_law_1211 clL_98 k9 rfl g1 rfl (Nat.zero_le _) ?_
  refine l_m C dL_law_1214 ?_
  refine l_arg C (k := 1) dL_law_1215 dL_law_1216 dL_law_1217 dL_law_1218 dL_law_1219 (by omega) ?_
  refine l_arg C (k := 2) dL_law_1220 dL_law_1221 dL_law_1222 dL_law_1223 dL_law_1224 (by omega) ?_
  refine l_arg C (k := 3) dL_law_1225 dL_law_1226 dL_law_1227 dL_law_1228 dL_law_1229 (by omega) ?_
  refine l_arg C (k := 4) dL_law_1230 dL_law_1231 dL_law_1232 dL_law_1233 dL_law_1234 (by omega) ?_
  refine l_arg C (k := 5) dL_law_1235 dL_law_1236 dL_law_1237 dL_law_1238 dL_law_1239 (by omega) ?_
  refine l_argB C (k := 6) dL_law_1240 dL_law_1241 dL_law_1242 dL_law_1244 dL_law_1245 rfl (by omega) ?_
  refine l_argB C (k := 7) dL_law_1246 dL_law_1247 dL_law_1248 dL_law_1250 dL_law_1251 rfl (by omega) ?_
  refine l_argB C (k := 8) dL_law_1252 dL_law_1253 dL_law_1254 dL_law_1256 dL_law_1257 rfl (by omega) ?_
  refine l_bool C dL_law_1258 dL_law_1261 dL_law_1262 dL_law_1265 ?_
  refine l_callV C (As := [vI (xs (i + 1)).toInt, vI (xs (i + 2)).toInt, vI (xs (i + 3)).toInt, vI (xs (i + 4)).toInt, vI (xs (i + 5)).toInt, vI (xs (i + 6)).toInt, vI (xs (i + 7)).toInt, vI (if (xs (i + 8)).toInt = 0 then 0 else 1)]) (rest := [vI z]) dL_law_1266 clL_102 k10 rfl g2 rfl (xcI z) ?_
  refine l_eq C (tgt := 2440) dL_law_1269 rfl ?_
  exact h F2 hR2
theorem law_c20 {p : Program} {l : Launch} {e : Env} {s : State} {m : MethodId} {below : List Frame} {meth : Method} {c : Code} {b L : Nat} {xs : Nat → Int32} {D : va_G} {ad : Nat → Nat} {cA : Nat → ClassId} {Q : State → Prop} {RR : Mem → Prop} (C : LX p s m meth c b L xs D ad cA) {i : Nat} {F : Mem} (hi : i + 8 < L) (hR : RR F) (hp : pcase RR gX9_soon gX10_soon [vI (xs (i + 1)).toInt, vI (xs (i + 2)).toInt, vI (xs (i + 3)).toInt, vI (xs (i + 4)).toInt, vI (xs (i + 5)).toInt, vI (xs (i + 6)).toInt]) (h : ∀ F', RR F' → LWP p l e s m below meth c b D ad cA Q 2440 i [] F') : LWP p l e s m below meth c b D ad cA Q 1274 i [] F := by
  refine lwp_mok (fun hm => ?_)
  obtain ⟨z, F1, F2, g1, g2, hR2⟩ := hp F hR hm
  refine l_x C dL_law_1274 ?_
  refine l_arg C (k := 1) dL_law_1275 dL_law_1276 dL_law_1277 dL_law_1278 dL_law_1279 (by omega) ?_
  refine l_arg C (k := 2) dL_law_1280 dL_law_1281 dL_law_1282 dL_law_1283 dL_law_1284 (by omega) ?_
  refine l_arg C (k := 3) dL_law_1285 dL_law_1286 dL_law_1287 dL_law_1288 dL_law_1289 (by omega) ?_
  refine l_arg C (k := 4) dL_law_1290 dL_law_1291 dL_law_1292 dL_law_1293 dL_law_1294 (by omega) ?_
  refine l_arg C (k := 5) dL_law_1295 dL_law_1296 dL_law_1297 dL_law_1298 dL_law_1299 (by omega) ?_
  refine l_argB C (k := 6) dL_law_1300 dL_law_1301 dL_law_1302 dL_law_1304 dL_law_1305 rfl (by omega) ?_
  refine l_callV C (As := [vI (xs (i + 1)).toInt, vI (xs (i + 2)).toInt, vI (xs (i + 3)).toInt, vI (xs (i + 4)).toInt, vI (xs (i + 5)).toInt, vI (xs (i + 6)).toInt]) (rest := []) dL_law_1306 clL_103 k9 rfl g1 rfl (Nat.zero_le _) ?_
  refine l_m C dL_law_1309 ?_
  refine l_arg C (k := 1) dL_law_1310 dL_law_1311 dL_law_1312 dL_law_1313 dL_law_1314 (by omega) ?_
  refine l_arg C (k := 2) dL_law_1315 dL_law_1316 dL_law_1317 dL_law_1318 dL_law_1319 (by omega) ?_
  refine l_arg C (k := 3) dL_law_1320 dL_law_1321 dL_law_1322 dL_law_1323 dL_law_1324 (by omega) ?_
  refine l_arg C (k := 4) dL_law_1325 dL_law_1326 dL_law_1327 dL_law_1328 dL_law_1329 (by omega) ?_
  refine l_arg C (k := 5) dL_law_1330 dL_law_1331 dL_law_1332 dL_law_1333 dL_law_1334 (by omega) ?_
  refine l_argB C (k := 6) dL_law_1335 dL_law_1336 dL_law_1337 dL_law_1339 dL_law_1340 rfl (by omega) ?_
  refine l_callV C (As := [vI (xs (i + 1)).toInt, vI (xs (i + 2)).toInt, vI (xs (i + 3)).toInt, vI (xs (i + 4)).toInt, vI (xs (i + 5)).toInt, vI (xs (i + 6)).toInt]) (rest := [vI z]) dL_law_1341 clL_106 k10 rfl g2 rfl (xcI z) ?_
  refine l_eq C (tgt := 2440) dL_law_1344 rfl ?_
  exact h F2 hR2
theorem law_c21 {p : Program} {l : Launch} {e : Env} {s : State} {m : MethodId} {below : List Frame} {meth : Method} {c : Code} {b L : Nat} {xs : Nat → Int32} {D : va_G} {ad : Nat → Nat} {cA : Nat → ClassId} {Q : State → Prop} {RR : Mem → Prop} (C : LX p s m meth c b L xs D ad cA) {i : Nat} {F : Mem} (hi : i + 8 < L) (hR : RR F) (hp : pcase RR gX9_worth gX10_worth [vI (xs (i + 1)).toInt, vI (xs (i + 2)).toInt, vI (xs (i + 3)).toInt, vI (xs (i + 4)).toInt, vI (xs (i + 5)).toInt, vI (xs (i + 6)).toInt, vI (xs (i + 7)).toInt]) (h : ∀ F', RR F' → LWP p l e s m below meth c b D ad cA Q 2440 i [] F') : LWP p l e s m below meth c b D ad cA Q 1349 i [] F := by
  refine lwp_mok (fun hm => ?_)
  obtain ⟨z, F1, F2, g1, g2, hR2⟩ := hp F hR hm
  refine l_x C dL_law_1349 ?_
  refine l_arg C (k := 1) dL_law_1350 dL_law_1351 dL_law_1352 dL_law_1353 dL_law_1354 (by omega) ?_
  refine l_arg C (k := 2) dL_law_1355 dL_law_1356 dL_law_1357 dL_law_1358 dL_law_1359 (by omega) ?_
  refine l_arg C (k := 3) dL_law_1360 dL_law_1361 dL_law_1362 dL_law_1363 dL_law_1364 (by omega) ?_
  refine l_arg C (k := 4) dL_law_1365 dL_law_1366 dL_law_1367 dL_law_1368 dL_law_1369 (by omega) ?_
  refine l_arg C (k := 5) dL_law_1370 dL_law_1371 dL_law_1372 dL_law_1373 dL_law_1374 (by omega) ?_
  refine l_argB C (k := 6) dL_law_1375 dL_law_1376 dL_law_1377 dL_law_1379 dL_law_1380 rfl (by omega) ?_
  refine l_argB C (k := 7) dL_law_1381 dL_law_1382 dL_law_1383 dL_law_1385 dL_law_1386 rfl (by omega) ?_
  refine l_callV C (As := [vI (xs (i + 1)).toInt, vI (xs (i + 2)).toInt, vI (xs (i + 3)).toInt, vI (xs (i + 4)).toInt, vI (xs (i + 5)).toInt, vI (xs (i + 6)).toInt, vI (xs (i + 7)).toInt]) (rest := []) dL_law_1387 clL_107 k9 rfl g1 rfl (Nat.zero_le _) ?_
  refine l_m C dL_law_1390 ?_
  refine l_arg C (k := 1) dL_law_1391 dL_law_1392 dL_law_1393 dL_law_1394 dL_law_1395 (by omega) ?_
  refine l_arg C (k := 2) dL_law_1396 dL_law_1397 dL_law_1398 dL_law_1399 dL_law_1400 (by omega) ?_
  refine l_arg C (k := 3) dL_law_1401 dL_law_1402 dL_law_1403 dL_law_1404 dL_law_1405 (by omega) ?_
  refine l_arg C (k := 4) dL_law_1406 dL_law_1407 dL_law_1408 dL_law_1409 dL_law_1410 (by omega) ?_
  refine l_arg C (k := 5) dL_law_1411 dL_law_1412 dL_law_1413 dL_law_1414 dL_law_1415 (by omega) ?_
  refine l_argB C (k := 6) dL_law_1416 dL_law_1417 dL_law_1418 dL_law_1420 dL_law_1421 rfl (by omega) ?_
  refine l_argB C (k := 7) dL_law_1422 dL_law_1423 dL_law_1424 dL_law_1426 dL_law_1427 rfl (by omega) ?_
  refine l_callV C (As := [vI (xs (i + 1)).toInt, vI (xs (i + 2)).toInt, vI (xs (i + 3)).toInt, vI (xs (i + 4)).toInt, vI (xs (i + 5)).toInt, vI (xs (i + 6)).toInt, vI (xs (i + 7)).toInt]) (rest := [vI z]) dL_law_1428 clL_110 k10 rfl g2 rfl (xcI z) ?_
  refine l_eq C (tgt := 2440) dL_law_1431 rfl ?_
  exact h F2 hR2
theorem law_c22 {p : Program} {l : Launch} {e : Env} {s : State} {m : MethodId} {below : List Frame} {meth : Method} {c : Code} {b L : Nat} {xs : Nat → Int32} {D : va_G} {ad : Nat → Nat} {cA : Nat → ClassId} {Q : State → Prop} {RR : Mem → Prop} (C : LX p s m meth c b L xs D ad cA) {i : Nat} {F : Mem} (hi : i + 8 < L) (hR : RR F) (hp : pcase RR gX9_pays gX10_pays [vI (xs (i + 1)).toInt, vI (xs (i + 2)).toInt, vI (xs (i + 3)).toInt, vI (xs (i + 4)).toInt, vI (xs (i + 5)).toInt, vI (xs (i + 6)).toInt, vI (xs (i + 7)).toInt, vI (xs (i + 8)).toInt]) (h : ∀ F', RR F' → LWP p l e s m below meth c b D ad cA Q 2440 i [] F') : LWP p l e s m below meth c b D ad cA Q 1436 i [] F := by
  refine lwp_mok (fun hm => ?_)
  obtain ⟨z, F1, F2, g1, g2, hR2⟩ := hp F hR hm
  refine l_x C dL_law_1436 ?_
  refine l_arg C (k := 1) dL_law_1437 dL_law_1438 dL_law_1439 dL_law_1440 dL_law_1441 (by omega) ?_
  refine l_arg C (k := 2) dL_law_1442 dL_law_1443 dL_law_1444 dL_law_1445 dL_law_1446 (by omega) ?_
  refine l_arg C (k := 3) dL_law_1447 dL_law_1448 dL_law_1449 dL_law_1450 dL_law_1451 (by omega) ?_
  refine l_arg C (k := 4) dL_law_1452 dL_law_1453 dL_law_1454 dL_law_1455 dL_law_1456 (by omega) ?_
  refine l_arg C (k := 5) dL_law_1457 dL_law_1458 dL_law_1459 dL_law_1460 dL_law_1461 (by omega) ?_
  refine l_argB C (k := 6) dL_law_1462 dL_law_1463 dL_law_1464 dL_law_1466 dL_law_1467 rfl (by omega) ?_
  refine l_argB C (k := 7) dL_law_1468 dL_law_1469 dL_law_1470 dL_law_1472 dL_law_1473 rfl (by omega) ?_
  refine l_argB C (k := 8) dL_law_1474 dL_law_1475 dL_law_1476 dL_law_1478 dL_law_1479 rfl (by omega) ?_
  refine l_callV C (As := [vI (xs (i + 1)).toInt, vI (xs (i + 2)).toInt, vI (xs (i + 3)).toInt, vI (xs (i + 4)).toInt, vI (xs (i + 5)).toInt, vI (xs (i + 6)).toInt, vI (xs (i + 7)).toInt, vI (xs (i + 8)).toInt]) (rest := []) dL_law_1480 clL_111 k9 rfl g1 rfl (Nat.zero_le _) ?_
  refine l_m C dL_law_1483 ?_
  refine l_arg C (k := 1) dL_law_1484 dL_law_1485 dL_law_1486 dL_law_1487 dL_law_1488 (by omega) ?_
  refine l_arg C (k := 2) dL_law_1489 dL_law_1490 dL_law_1491 dL_law_1492 dL_law_1493 (by omega) ?_
  refine l_arg C (k := 3) dL_law_1494 dL_law_1495 dL_law_1496 dL_law_1497 dL_law_1498 (by omega) ?_
  refine l_arg C (k := 4) dL_law_1499 dL_law_1500 dL_law_1501 dL_law_1502 dL_law_1503 (by omega) ?_
  refine l_arg C (k := 5) dL_law_1504 dL_law_1505 dL_law_1506 dL_law_1507 dL_law_1508 (by omega) ?_
  refine l_argB C (k := 6) dL_law_1509 dL_law_1510 dL_law_1511 dL_law_1513 dL_law_1514 rfl (by omega) ?_
  refine l_argB C (k := 7) dL_law_1515 dL_law_1516 dL_law_1517 dL_law_1519 dL_law_1520 rfl (by omega) ?_
  refine l_argB C (k := 8) dL_law_1521 dL_law_1522 dL_law_1523 dL_law_1525 dL_law_1526 rfl (by omega) ?_
  refine l_callV C (As := [vI (xs (i + 1)).toInt, vI (xs (i + 2)).toInt, vI (xs (i + 3)).toInt, vI (xs (i + 4)).toInt, vI (xs (i + 5)).toInt, vI (xs (i + 6)).toInt, vI (xs (i + 7)).toInt, vI (xs (i + 8)).toInt]) (rest := [vI z]) dL_law_1527 clL_115 k10 rfl g2 rfl (xcI z) ?_
  refine l_eq C (tgt := 2440) dL_law_1530 rfl ?_
  exact h F2 hR2
theorem law_c23 {p : Program} {l : Launch} {e : Env} {s : State} {m : MethodId} {below : List Frame} {meth : Method} {c : Code} {b L : Nat} {xs : Nat → Int32} {D : va_G} {ad : Nat → Nat} {cA : Nat → ClassId} {Q : State → Prop} {RR : Mem → Prop} (C : LX p s m meth c b L xs D ad cA) {i : Nat} {F : Mem} (hi : i + 8 < L) (hR : RR F) (hp : pcase RR gX9_deal gX10_deal [vI (xs (i + 1)).toInt, vI (xs (i + 2)).toInt, vI (xs (i + 3)).toInt, vI (xs (i + 4)).toInt, vI (xs (i + 5)).toInt, vI (xs (i + 6)).toInt, vI (xs (i + 7)).toInt]) (h : ∀ F', RR F' → LWP p l e s m below meth c b D ad cA Q 2440 i [] F') : LWP p l e s m below meth c b D ad cA Q 1535 i [] F := by
  refine lwp_mok (fun hm => ?_)
  obtain ⟨z, F1, F2, g1, g2, hR2⟩ := hp F hR hm
  refine l_x C dL_law_1535 ?_
  refine l_arg C (k := 1) dL_law_1536 dL_law_1537 dL_law_1538 dL_law_1539 dL_law_1540 (by omega) ?_
  refine l_arg C (k := 2) dL_law_1541 dL_law_1542 dL_law_1543 dL_law_1544 dL_law_1545 (by omega) ?_
  refine l_arg C (k := 3) dL_law_1546 dL_law_1547 dL_law_1548 dL_law_1549 dL_law_1550 (by omega) ?_
  refine l_arg C (k := 4) dL_law_1551 dL_law_1552 dL_law_1553 dL_law_1554 dL_law_1555 (by omega) ?_
  refine l_arg C (k := 5) dL_law_1556 dL_law_1557 dL_law_1558 dL_law_1559 dL_law_1560 (by omega) ?_
  refine l_argB C (k := 6) dL_law_1561 dL_law_1562 dL_law_1563 dL_law_1565 dL_law_1566 rfl (by omega) ?_
  refine l_argB C (k := 7) dL_law_1567 dL_law_1568 dL_law_1569 dL_law_1571 dL_law_1572 rfl (by omega) ?_
  refine l_callV C (As := [vI (xs (i + 1)).toInt, vI (xs (i + 2)).toInt, vI (xs (i + 3)).toInt, vI (xs (i + 4)).toInt, vI (xs (i + 5)).toInt, vI (xs (i + 6)).toInt, vI (xs (i + 7)).toInt]) (rest := []) dL_law_1573 clL_116 k9 rfl g1 rfl (Nat.zero_le _) ?_
  refine l_m C dL_law_1576 ?_
  refine l_arg C (k := 1) dL_law_1577 dL_law_1578 dL_law_1579 dL_law_1580 dL_law_1581 (by omega) ?_
  refine l_arg C (k := 2) dL_law_1582 dL_law_1583 dL_law_1584 dL_law_1585 dL_law_1586 (by omega) ?_
  refine l_arg C (k := 3) dL_law_1587 dL_law_1588 dL_law_1589 dL_law_1590 dL_law_1591 (by omega) ?_
  refine l_arg C (k := 4) dL_law_1592 dL_law_1593 dL_law_1594 dL_law_1595 dL_law_1596 (by omega) ?_
  refine l_arg C (k := 5) dL_law_1597 dL_law_1598 dL_law_1599 dL_law_1600 dL_law_1601 (by omega) ?_
  refine l_argB C (k := 6) dL_law_1602 dL_law_1603 dL_law_1604 dL_law_1606 dL_law_1607 rfl (by omega) ?_
  refine l_argB C (k := 7) dL_law_1608 dL_law_1609 dL_law_1610 dL_law_1612 dL_law_1613 rfl (by omega) ?_
  refine l_callV C (As := [vI (xs (i + 1)).toInt, vI (xs (i + 2)).toInt, vI (xs (i + 3)).toInt, vI (xs (i + 4)).toInt, vI (xs (i + 5)).toInt, vI (xs (i + 6)).toInt, vI (xs (i + 7)).toInt]) (rest := [vI z]) dL_law_1614 clL_119 k10 rfl g2 rfl (xcI z) ?_
  refine l_eq C (tgt := 2440) dL_law_1617 rfl ?_
  exact h F2 hR2
theorem law_c24 {p : Program} {l : Launch} {e : Env} {s : State} {m : MethodId} {below : List Frame} {meth : Method} {c : Code} {b L : Nat} {xs : Nat → Int32} {D : va_G} {ad : Nat → Nat} {cA : Nat → ClassId} {Q : State → Prop} {RR : Mem → Prop} (C : LX p s m meth c b L xs D ad cA) {i : Nat} {F : Mem} (hi : i + 8 < L) (hR : RR F) (hp : pcase RR gX9_halved gX10_halved [vI (xs (i + 1)).toInt, vI (xs (i + 2)).toInt, vI (xs (i + 3)).toInt, vI (xs (i + 4)).toInt, vI (xs (i + 5)).toInt]) (h : ∀ F', RR F' → LWP p l e s m below meth c b D ad cA Q 2440 i [] F') : LWP p l e s m below meth c b D ad cA Q 1622 i [] F := by
  refine lwp_mok (fun hm => ?_)
  obtain ⟨z, F1, F2, g1, g2, hR2⟩ := hp F hR hm
  refine l_x C dL_law_1622 ?_
  refine l_arg C (k := 1) dL_law_1623 dL_law_1624 dL_law_1625 dL_law_1626 dL_law_1627 (by omega) ?_
  refine l_arg C (k := 2) dL_law_1628 dL_law_1629 dL_law_1630 dL_law_1631 dL_law_1632 (by omega) ?_
  refine l_arg C (k := 3) dL_law_1633 dL_law_1634 dL_law_1635 dL_law_1636 dL_law_1637 (by omega) ?_
  refine l_arg C (k := 4) dL_law_1638 dL_law_1639 dL_law_1640 dL_law_1641 dL_law_1642 (by omega) ?_
  refine l_arg C (k := 5) dL_law_1643 dL_law_1644 dL_law_1645 dL_law_1646 dL_law_1647 (by omega) ?_
  refine l_callV C (As := [vI (xs (i + 1)).toInt, vI (xs (i + 2)).toInt, vI (xs (i + 3)).toInt, vI (xs (i + 4)).toInt, vI (xs (i + 5)).toInt]) (rest := []) dL_law_1648 clL_120 k9 rfl g1 rfl (Nat.zero_le _) ?_
  refine l_m C dL_law_1651 ?_
  refine l_arg C (k := 1) dL_law_1652 dL_law_1653 dL_law_1654 dL_law_1655 dL_law_1656 (by omega) ?_
  refine l_arg C (k := 2) dL_law_1657 dL_law_1658 dL_law_1659 dL_law_1660 dL_law_1661 (by omega) ?_
  refine l_arg C (k := 3) dL_law_1662 dL_law_1663 dL_law_1664 dL_law_1665 dL_law_1666 (by omega) ?_
  refine l_arg C (k := 4) dL_law_1667 dL_law_1668 dL_law_1669 dL_law_1670 dL_law_1671 (by omega) ?_
  refine l_arg C (k := 5) dL_law_1672 dL_law_1673 dL_law_1674 dL_law_1675 dL_law_1676 (by omega) ?_
  refine l_callV C (As := [vI (xs (i + 1)).toInt, vI (xs (i + 2)).toInt, vI (xs (i + 3)).toInt, vI (xs (i + 4)).toInt, vI (xs (i + 5)).toInt]) (rest := [vI z]) dL_law_1677 clL_123 k10 rfl g2 rfl (xcI z) ?_
  refine l_eq C (tgt := 2440) dL_law_1680 rfl ?_
  exact h F2 hR2
theorem law_c25 {p : Program} {l : Launch} {e : Env} {s : State} {m : MethodId} {below : List Frame} {meth : Method} {c : Code} {b L : Nat} {xs : Nat → Int32} {D : va_G} {ad : Nat → Nat} {cA : Nat → ClassId} {Q : State → Prop} {RR : Mem → Prop} (C : LX p s m meth c b L xs D ad cA) {i : Nat} {F : Mem} (hi : i + 8 < L) (hR : RR F) (hp : pcase RR gX9_needs gX10_needs [vI (xs (i + 1)).toInt, vI (xs (i + 2)).toInt, vI (xs (i + 3)).toInt, vI (xs (i + 4)).toInt, vI (xs (i + 5)).toInt, vI (xs (i + 6)).toInt, vI (xs (i + 7)).toInt]) (h : ∀ F', RR F' → LWP p l e s m below meth c b D ad cA Q 2440 i [] F') : LWP p l e s m below meth c b D ad cA Q 1685 i [] F := by
  refine lwp_mok (fun hm => ?_)
  obtain ⟨z, F1, F2, g1, g2, hR2⟩ := hp F hR hm
  refine l_x C dL_law_1685 ?_
  refine l_arg C (k := 1) dL_law_1686 dL_law_1687 dL_law_1688 dL_law_1689 dL_law_1690 (by omega) ?_
  refine l_arg C (k := 2) dL_law_1691 dL_law_1692 dL_law_1693 dL_law_1694 dL_law_1695 (by omega) ?_
  refine l_arg C (k := 3) dL_law_1696 dL_law_1697 dL_law_1698 dL_law_1699 dL_law_1700 (by omega) ?_
  refine l_arg C (k := 4) dL_law_1701 dL_law_1702 dL_law_1703 dL_law_1704 dL_law_1705 (by omega) ?_
  refine l_arg C (k := 5) dL_law_1706 dL_law_1707 dL_law_1708 dL_law_1709 dL_law_1710 (by omega) ?_
  refine l_argB C (k := 6) dL_law_1711 dL_law_1712 dL_law_1713 dL_law_1715 dL_law_1716 rfl (by omega) ?_
  refine l_argB C (k := 7) dL_law_1717 dL_law_1718 dL_law_1719 dL_law_1721 dL_law_1722 rfl (by omega) ?_
  refine l_callV C (As := [vI (xs (i + 1)).toInt, vI (xs (i + 2)).toInt, vI (xs (i + 3)).toInt, vI (xs (i + 4)).toInt, vI (xs (i + 5)).toInt, vI (xs (i + 6)).toInt, vI (xs (i + 7)).toInt]) (rest := []) dL_law_1723 clL_124 k9 rfl g1 rfl (Nat.zero_le _) ?_
  refine l_m C dL_law_1726 ?_
  refine l_arg C (k := 1) dL_law_1727 dL_law_1728 dL_law_1729 dL_law_1730 dL_law_1731 (by omega) ?_
  refine l_arg C (k := 2) dL_law_1732 dL_law_1733 dL_law_1734 dL_law_1735 dL_law_1736 (by omega) ?_
  refine l_arg C (k := 3) dL_law_1737 dL_law_1738 dL_law_1739 dL_law_1740 dL_law_1741 (by omega) ?_
  refine l_arg C (k := 4) dL_law_1742 dL_law_1743 dL_law_1744 dL_law_1745 dL_law_1746 (by omega) ?_
  refine l_arg C (k := 5) dL_law_1747 dL_law_1748 dL_law_1749 dL_law_1750 dL_law_1751 (by omega) ?_
  refine l_argB C (k := 6) dL_law_1752 dL_law_1753 dL_law_1754 dL_law_1756 dL_law_1757 rfl (by omega) ?_
  refine l_argB C (k := 7) dL_law_1758 dL_law_1759 dL_law_1760 dL_law_1762 dL_law_1763 rfl (by omega) ?_
  refine l_callV C (As := [vI (xs (i + 1)).toInt, vI (xs (i + 2)).toInt, vI (xs (i + 3)).toInt, vI (xs (i + 4)).toInt, vI (xs (i + 5)).toInt, vI (xs (i + 6)).toInt, vI (xs (i + 7)).toInt]) (rest := [vI z]) dL_law_1764 clL_127 k10 rfl g2 rfl (xcI z) ?_
  refine l_eq C (tgt := 2440) dL_law_1767 rfl ?_
  exact h F2 hR2
theorem law_c26 {p : Program} {l : Launch} {e : Env} {s : State} {m : MethodId} {below : List Frame} {meth : Method} {c : Code} {b L : Nat} {xs : Nat → Int32} {D : va_G} {ad : Nat → Nat} {cA : Nat → ClassId} {Q : State → Prop} {RR : Mem → Prop} (C : LX p s m meth c b L xs D ad cA) {i : Nat} {F : Mem} (hi : i + 8 < L) (hR : RR F) (hp : pcase RR gX9_day gX10_day [vI (xs (i + 1)).toInt, vI (xs (i + 2)).toInt, vI (xs (i + 3)).toInt, vI (xs (i + 4)).toInt, vI (xs (i + 5)).toInt]) (h : ∀ F', RR F' → LWP p l e s m below meth c b D ad cA Q 2440 i [] F') : LWP p l e s m below meth c b D ad cA Q 1772 i [] F := by
  refine lwp_mok (fun hm => ?_)
  obtain ⟨z, F1, F2, g1, g2, hR2⟩ := hp F hR hm
  refine l_x C dL_law_1772 ?_
  refine l_arg C (k := 1) dL_law_1773 dL_law_1774 dL_law_1775 dL_law_1776 dL_law_1777 (by omega) ?_
  refine l_arg C (k := 2) dL_law_1778 dL_law_1779 dL_law_1780 dL_law_1781 dL_law_1782 (by omega) ?_
  refine l_arg C (k := 3) dL_law_1783 dL_law_1784 dL_law_1785 dL_law_1786 dL_law_1787 (by omega) ?_
  refine l_arg C (k := 4) dL_law_1788 dL_law_1789 dL_law_1790 dL_law_1791 dL_law_1792 (by omega) ?_
  refine l_arg C (k := 5) dL_law_1793 dL_law_1794 dL_law_1795 dL_law_1796 dL_law_1797 (by omega) ?_
  refine l_callV C (As := [vI (xs (i + 1)).toInt, vI (xs (i + 2)).toInt, vI (xs (i + 3)).toInt, vI (xs (i + 4)).toInt, vI (xs (i + 5)).toInt]) (rest := []) dL_law_1798 clL_128 k9 rfl g1 rfl (Nat.zero_le _) ?_
  refine l_m C dL_law_1801 ?_
  refine l_arg C (k := 1) dL_law_1802 dL_law_1803 dL_law_1804 dL_law_1805 dL_law_1806 (by omega) ?_
  refine l_arg C (k := 2) dL_law_1807 dL_law_1808 dL_law_1809 dL_law_1810 dL_law_1811 (by omega) ?_
  refine l_arg C (k := 3) dL_law_1812 dL_law_1813 dL_law_1814 dL_law_1815 dL_law_1816 (by omega) ?_
  refine l_arg C (k := 4) dL_law_1817 dL_law_1818 dL_law_1819 dL_law_1820 dL_law_1821 (by omega) ?_
  refine l_arg C (k := 5) dL_law_1822 dL_law_1823 dL_law_1824 dL_law_1825 dL_law_1826 (by omega) ?_
  refine l_callV C (As := [vI (xs (i + 1)).toInt, vI (xs (i + 2)).toInt, vI (xs (i + 3)).toInt, vI (xs (i + 4)).toInt, vI (xs (i + 5)).toInt]) (rest := [vI z]) dL_law_1827 clL_131 k10 rfl g2 rfl (xcI z) ?_
  refine l_eq C (tgt := 2440) dL_law_1830 rfl ?_
  exact h F2 hR2
theorem law_c27 {p : Program} {l : Launch} {e : Env} {s : State} {m : MethodId} {below : List Frame} {meth : Method} {c : Code} {b L : Nat} {xs : Nat → Int32} {D : va_G} {ad : Nat → Nat} {cA : Nat → ClassId} {Q : State → Prop} {RR : Mem → Prop} (C : LX p s m meth c b L xs D ad cA) {i : Nat} {F : Mem} (hi : i + 8 < L) (hR : RR F) (hp : pcase RR gX9_cross gX10_cross [vI (xs (i + 1)).toInt, vI (xs (i + 2)).toInt]) (h : ∀ F', RR F' → LWP p l e s m below meth c b D ad cA Q 2440 i [] F') : LWP p l e s m below meth c b D ad cA Q 1835 i [] F := by
  refine lwp_mok (fun hm => ?_)
  obtain ⟨z, F1, F2, g1, g2, hR2⟩ := hp F hR hm
  refine l_x C dL_law_1835 ?_
  refine l_arg C (k := 1) dL_law_1836 dL_law_1837 dL_law_1838 dL_law_1839 dL_law_1840 (by omega) ?_
  refine l_arg C (k := 2) dL_law_1841 dL_law_1842 dL_law_1843 dL_law_1844 dL_law_1845 (by omega) ?_
  refine l_callV C (As := [vI (xs (i + 1)).toInt, vI (xs (i + 2)).toInt]) (rest := []) dL_law_1846 clL_132 k9 rfl g1 rfl (Nat.zero_le _) ?_
  refine l_m C dL_law_1849 ?_
  refine l_arg C (k := 1) dL_law_1850 dL_law_1851 dL_law_1852 dL_law_1853 dL_law_1854 (by omega) ?_
  refine l_arg C (k := 2) dL_law_1855 dL_law_1856 dL_law_1857 dL_law_1858 dL_law_1859 (by omega) ?_
  refine l_callV C (As := [vI (xs (i + 1)).toInt, vI (xs (i + 2)).toInt]) (rest := [vI z]) dL_law_1860 clL_135 k10 rfl g2 rfl (xcI z) ?_
  refine l_eq C (tgt := 2440) dL_law_1863 rfl ?_
  exact h F2 hR2
theorem law_c28 {p : Program} {l : Launch} {e : Env} {s : State} {m : MethodId} {below : List Frame} {meth : Method} {c : Code} {b L : Nat} {xs : Nat → Int32} {D : va_G} {ad : Nat → Nat} {cA : Nat → ClassId} {Q : State → Prop} {RR : Mem → Prop} (C : LX p s m meth c b L xs D ad cA) {i : Nat} {F : Mem} (hi : i + 8 < L) (hR : RR F) (hp : pcase RR gX9_error gX10_error [vI (xs (i + 1)).toInt, vI (xs (i + 2)).toInt, vI (xs (i + 3)).toInt]) (h : ∀ F', RR F' → LWP p l e s m below meth c b D ad cA Q 2440 i [] F') : LWP p l e s m below meth c b D ad cA Q 1868 i [] F := by
  refine lwp_mok (fun hm => ?_)
  obtain ⟨z, F1, F2, g1, g2, hR2⟩ := hp F hR hm
  refine l_x C dL_law_1868 ?_
  refine l_arg C (k := 1) dL_law_1869 dL_law_1870 dL_law_1871 dL_law_1872 dL_law_1873 (by omega) ?_
  refine l_arg C (k := 2) dL_law_1874 dL_law_1875 dL_law_1876 dL_law_1877 dL_law_1878 (by omega) ?_
  refine l_arg C (k := 3) dL_law_1879 dL_law_1880 dL_law_1881 dL_law_1882 dL_law_1883 (by omega) ?_
  refine l_callV C (As := [vI (xs (i + 1)).toInt, vI (xs (i + 2)).toInt, vI (xs (i + 3)).toInt]) (rest := []) dL_law_1884 clL_136 k9 rfl g1 rfl (Nat.zero_le _) ?_
  refine l_m C dL_law_1887 ?_
  refine l_arg C (k := 1) dL_law_1888 dL_law_1889 dL_law_1890 dL_law_1891 dL_law_1892 (by omega) ?_
  refine l_arg C (k := 2) dL_law_1893 dL_law_1894 dL_law_1895 dL_law_1896 dL_law_1897 (by omega) ?_
  refine l_arg C (k := 3) dL_law_1898 dL_law_1899 dL_law_1900 dL_law_1901 dL_law_1902 (by omega) ?_
  refine l_callV C (As := [vI (xs (i + 1)).toInt, vI (xs (i + 2)).toInt, vI (xs (i + 3)).toInt]) (rest := [vI z]) dL_law_1903 clL_139 k10 rfl g2 rfl (xcI z) ?_
  refine l_eq C (tgt := 2440) dL_law_1906 rfl ?_
  exact h F2 hR2
theorem law_c29 {p : Program} {l : Launch} {e : Env} {s : State} {m : MethodId} {below : List Frame} {meth : Method} {c : Code} {b L : Nat} {xs : Nat → Int32} {D : va_G} {ad : Nat → Nat} {cA : Nat → ClassId} {Q : State → Prop} {RR : Mem → Prop} (C : LX p s m meth c b L xs D ad cA) {i : Nat} {F : Mem} (hi : i + 8 < L) (hR : RR F) (hp : pcase RR gX9_blame gX10_blame [vI (xs (i + 1)).toInt, vI (xs (i + 2)).toInt, vI (xs (i + 3)).toInt, vI (xs (i + 4)).toInt]) (h : ∀ F', RR F' → LWP p l e s m below meth c b D ad cA Q 2440 i [] F') : LWP p l e s m below meth c b D ad cA Q 1911 i [] F := by
  refine lwp_mok (fun hm => ?_)
  obtain ⟨z, F1, F2, g1, g2, hR2⟩ := hp F hR hm
  refine l_x C dL_law_1911 ?_
  refine l_arg C (k := 1) dL_law_1912 dL_law_1913 dL_law_1914 dL_law_1915 dL_law_1916 (by omega) ?_
  refine l_arg C (k := 2) dL_law_1917 dL_law_1918 dL_law_1919 dL_law_1920 dL_law_1921 (by omega) ?_
  refine l_arg C (k := 3) dL_law_1922 dL_law_1923 dL_law_1924 dL_law_1925 dL_law_1926 (by omega) ?_
  refine l_arg C (k := 4) dL_law_1927 dL_law_1928 dL_law_1929 dL_law_1930 dL_law_1931 (by omega) ?_
  refine l_callV C (As := [vI (xs (i + 1)).toInt, vI (xs (i + 2)).toInt, vI (xs (i + 3)).toInt, vI (xs (i + 4)).toInt]) (rest := []) dL_law_1932 clL_140 k9 rfl g1 rfl (Nat.zero_le _) ?_
  refine l_m C dL_law_1935 ?_
  refine l_arg C (k := 1) dL_law_1936 dL_law_1937 dL_law_1938 dL_law_1939 dL_law_1940 (by omega) ?_
  refine l_arg C (k := 2) dL_law_1941 dL_law_1942 dL_law_1943 dL_law_1944 dL_law_1945 (by omega) ?_
  refine l_arg C (k := 3) dL_law_1946 dL_law_1947 dL_law_1948 dL_law_1949 dL_law_1950 (by omega) ?_
  refine l_arg C (k := 4) dL_law_1951 dL_law_1952 dL_law_1953 dL_law_1954 dL_law_1955 (by omega) ?_
  refine l_callV C (As := [vI (xs (i + 1)).toInt, vI (xs (i + 2)).toInt, vI (xs (i + 3)).toInt, vI (xs (i + 4)).toInt]) (rest := [vI z]) dL_law_1956 clL_143 k10 rfl g2 rfl (xcI z) ?_
  refine l_eq C (tgt := 2440) dL_law_1959 rfl ?_
  exact h F2 hR2
theorem law_c30 {p : Program} {l : Launch} {e : Env} {s : State} {m : MethodId} {below : List Frame} {meth : Method} {c : Code} {b L : Nat} {xs : Nat → Int32} {D : va_G} {ad : Nat → Nat} {cA : Nat → ClassId} {Q : State → Prop} {RR : Mem → Prop} (C : LX p s m meth c b L xs D ad cA) {i : Nat} {F : Mem} (hi : i + 8 < L) (hR : RR F) (hp : pcase RR gX9_likely gX10_likely [vI (xs (i + 1)).toInt, vI (xs (i + 2)).toInt]) (h : ∀ F', RR F' → LWP p l e s m below meth c b D ad cA Q 2440 i [] F') : LWP p l e s m below meth c b D ad cA Q 1964 i [] F := by
  refine lwp_mok (fun hm => ?_)
  obtain ⟨z, F1, F2, g1, g2, hR2⟩ := hp F hR hm
  refine l_x C dL_law_1964 ?_
  refine l_arg C (k := 1) dL_law_1965 dL_law_1966 dL_law_1967 dL_law_1968 dL_law_1969 (by omega) ?_
  refine l_arg C (k := 2) dL_law_1970 dL_law_1971 dL_law_1972 dL_law_1973 dL_law_1974 (by omega) ?_
  refine l_callV C (As := [vI (xs (i + 1)).toInt, vI (xs (i + 2)).toInt]) (rest := []) dL_law_1975 clL_144 k9 rfl g1 rfl (Nat.zero_le _) ?_
  refine l_m C dL_law_1978 ?_
  refine l_arg C (k := 1) dL_law_1979 dL_law_1980 dL_law_1981 dL_law_1982 dL_law_1983 (by omega) ?_
  refine l_arg C (k := 2) dL_law_1984 dL_law_1985 dL_law_1986 dL_law_1987 dL_law_1988 (by omega) ?_
  refine l_callV C (As := [vI (xs (i + 1)).toInt, vI (xs (i + 2)).toInt]) (rest := [vI z]) dL_law_1989 clL_147 k10 rfl g2 rfl (xcI z) ?_
  refine l_eq C (tgt := 2440) dL_law_1992 rfl ?_
  exact h F2 hR2
theorem law_c31 {p : Program} {l : Launch} {e : Env} {s : State} {m : MethodId} {below : List Frame} {meth : Method} {c : Code} {b L : Nat} {xs : Nat → Int32} {D : va_G} {ad : Nat → Nat} {cA : Nat → ClassId} {Q : State → Prop} {RR : Mem → Prop} (C : LX p s m meth c b L xs D ad cA) {i : Nat} {F : Mem} (hi : i + 8 < L) (hR : RR F) (hp : pcase RR gX9_home gX10_home [vI (xs (i + 1)).toInt, vI (xs (i + 2)).toInt, vI (xs (i + 3)).toInt, vI (xs (i + 4)).toInt, vI (xs (i + 5)).toInt]) (h : ∀ F', RR F' → LWP p l e s m below meth c b D ad cA Q 2440 i [] F') : LWP p l e s m below meth c b D ad cA Q 1997 i [] F := by
  refine lwp_mok (fun hm => ?_)
  obtain ⟨z, F1, F2, g1, g2, hR2⟩ := hp F hR hm
  refine l_x C dL_law_1997 ?_
  refine l_arg C (k := 1) dL_law_1998 dL_law_1999 dL_law_2000 dL_law_2001 dL_law_2002 (by omega) ?_
  refine l_arg C (k := 2) dL_law_2003 dL_law_2004 dL_law_2005 dL_law_2006 dL_law_2007 (by omega) ?_
  refine l_arg C (k := 3) dL_law_2008 dL_law_2009 dL_law_2010 dL_law_2011 dL_law_2012 (by omega) ?_
  refine l_arg C (k := 4) dL_law_2013 dL_law_2014 dL_law_2015 dL_law_2016 dL_law_2017 (by omega) ?_
  refine l_arg C (k := 5) dL_law_2018 dL_law_2019 dL_law_2020 dL_law_2021 dL_law_2022 (by omega) ?_
  refine l_callV C (As := [vI (xs (i + 1)).toInt, vI (xs (i + 2)).toInt, vI (xs (i + 3)).toInt, vI (xs (i + 4)).toInt, vI (xs (i + 5)).toInt]) (rest := []) dL_law_2023 clL_148 k9 rfl g1 rfl (Nat.zero_le _) ?_
  refine l_m C dL_law_2026 ?_
  refine l_arg C (k := 1) dL_law_2027 dL_law_2028 dL_law_2029 dL_law_2030 dL_law_2031 (by omega) ?_
  refine l_arg C (k := 2) dL_law_2032 dL_law_2033 dL_law_2034 dL_law_2035 dL_law_2036 (by omega) ?_
  refine l_arg C (k := 3) dL_law_2037 dL_law_2038 dL_law_2039 dL_law_2040 dL_law_2041 (by omega) ?_
  refine l_arg C (k := 4) dL_law_2042 dL_law_2043 dL_law_2044 dL_law_2045 dL_law_2046 (by omega) ?_
  refine l_arg C (k := 5) dL_law_2047 dL_law_2048 dL_law_2049 dL_law_2050 dL_law_2051 (by omega) ?_
  refine l_callV C (As := [vI (xs (i + 1)).toInt, vI (xs (i + 2)).toInt, vI (xs (i + 3)).toInt, vI (xs (i + 4)).toInt, vI (xs (i + 5)).toInt]) (rest := [vI z]) dL_law_2052 clL_151 k10 rfl g2 rfl (xcI z) ?_
  refine l_eq C (tgt := 2440) dL_law_2055 rfl ?_
  exact h F2 hR2
theorem law_c32 {p : Program} {l : Launch} {e : Env} {s : State} {m : MethodId} {below : List Frame} {meth : Method} {c : Code} {b L : Nat} {xs : Nat → Int32} {D : va_G} {ad : Nat → Nat} {cA : Nat → ClassId} {Q : State → Prop} {RR : Mem → Prop} (C : LX p s m meth c b L xs D ad cA) {i : Nat} {F : Mem} (hi : i + 8 < L) (hR : RR F) (hp : pcaseL RR gX9_ways gX10_ways [vI (xs (i + 1)).toInt, vI (xs (i + 2)).toInt, vI (xs (i + 3)).toInt, vI (xs (i + 4)).toInt]) (h : ∀ F', RR F' → LWP p l e s m below meth c b D ad cA Q 2440 i [] F') : LWP p l e s m below meth c b D ad cA Q 2060 i [] F := by
  refine lwp_mok (fun hm => ?_)
  obtain ⟨z, F1, F2, g1, g2, hR2⟩ := hp F hR hm
  refine l_x C dL_law_2060 ?_
  refine l_arg C (k := 1) dL_law_2061 dL_law_2062 dL_law_2063 dL_law_2064 dL_law_2065 (by omega) ?_
  refine l_arg C (k := 2) dL_law_2066 dL_law_2067 dL_law_2068 dL_law_2069 dL_law_2070 (by omega) ?_
  refine l_arg C (k := 3) dL_law_2071 dL_law_2072 dL_law_2073 dL_law_2074 dL_law_2075 (by omega) ?_
  refine l_arg C (k := 4) dL_law_2076 dL_law_2077 dL_law_2078 dL_law_2079 dL_law_2080 (by omega) ?_
  refine l_callV C (As := [vI (xs (i + 1)).toInt, vI (xs (i + 2)).toInt, vI (xs (i + 3)).toInt, vI (xs (i + 4)).toInt]) (rest := []) dL_law_2081 clL_152 k9 rfl g1 rfl (Nat.zero_le _) ?_
  refine l_m C dL_law_2084 ?_
  refine l_arg C (k := 1) dL_law_2085 dL_law_2086 dL_law_2087 dL_law_2088 dL_law_2089 (by omega) ?_
  refine l_arg C (k := 2) dL_law_2090 dL_law_2091 dL_law_2092 dL_law_2093 dL_law_2094 (by omega) ?_
  refine l_arg C (k := 3) dL_law_2095 dL_law_2096 dL_law_2097 dL_law_2098 dL_law_2099 (by omega) ?_
  refine l_arg C (k := 4) dL_law_2100 dL_law_2101 dL_law_2102 dL_law_2103 dL_law_2104 (by omega) ?_
  refine l_callV C (As := [vI (xs (i + 1)).toInt, vI (xs (i + 2)).toInt, vI (xs (i + 3)).toInt, vI (xs (i + 4)).toInt]) (rest := [vL z]) dL_law_2105 clL_156 k10 rfl g2 rfl (xcL z) ?_
  refine l_leq C (tgt := 2440) dL_law_2108 dL_law_2109 rfl ?_
  exact h F2 hR2
theorem law_c33 {p : Program} {l : Launch} {e : Env} {s : State} {m : MethodId} {below : List Frame} {meth : Method} {c : Code} {b L : Nat} {xs : Nat → Int32} {D : va_G} {ad : Nat → Nat} {cA : Nat → ClassId} {Q : State → Prop} {RR : Mem → Prop} (C : LX p s m meth c b L xs D ad cA) {i : Nat} {F : Mem} (hi : i + 8 < L) (hR : RR F) (hp : pcase RR gX9_buys gX10_buys [vI (xs (i + 1)).toInt, vI (xs (i + 2)).toInt, vI (xs (i + 3)).toInt, vI (xs (i + 4)).toInt, vI (xs (i + 5)).toInt, vI (xs (i + 6)).toInt]) (h : ∀ F', RR F' → LWP p l e s m below meth c b D ad cA Q 2440 i [] F') : LWP p l e s m below meth c b D ad cA Q 2114 i [] F := by
  refine lwp_mok (fun hm => ?_)
  obtain ⟨z, F1, F2, g1, g2, hR2⟩ := hp F hR hm
  refine l_x C dL_law_2114 ?_
  refine l_arg C (k := 1) dL_law_2115 dL_law_2116 dL_law_2117 dL_law_2118 dL_law_2119 (by omega) ?_
  refine l_arg C (k := 2) dL_law_2120 dL_law_2121 dL_law_2122 dL_law_2123 dL_law_2124 (by omega) ?_
  refine l_arg C (k := 3) dL_law_2125 dL_law_2126 dL_law_2127 dL_law_2128 dL_law_2129 (by omega) ?_
  refine l_arg C (k := 4) dL_law_2130 dL_law_2131 dL_law_2132 dL_law_2133 dL_law_2134 (by omega) ?_
  refine l_arg C (k := 5) dL_law_2135 dL_law_2136 dL_law_2137 dL_law_2138 dL_law_2139 (by omega) ?_
  refine l_argB C (k := 6) dL_law_2140 dL_law_2141 dL_law_2142 dL_law_2144 dL_law_2145 rfl (by omega) ?_
  refine l_callV C (As := [vI (xs (i + 1)).toInt, vI (xs (i + 2)).toInt, vI (xs (i + 3)).toInt, vI (xs (i + 4)).toInt, vI (xs (i + 5)).toInt, vI (xs (i + 6)).toInt]) (rest := []) dL_law_2146 clL_157 k9 rfl g1 rfl (Nat.zero_le _) ?_
  refine l_m C dL_law_2149 ?_
  refine l_arg C (k := 1) dL_law_2150 dL_law_2151 dL_law_2152 dL_law_2153 dL_law_2154 (by omega) ?_
  refine l_arg C (k := 2) dL_law_2155 dL_law_2156 dL_law_2157 dL_law_2158 dL_law_2159 (by omega) ?_
  refine l_arg C (k := 3) dL_law_2160 dL_law_2161 dL_law_2162 dL_law_2163 dL_law_2164 (by omega) ?_
  refine l_arg C (k := 4) dL_law_2165 dL_law_2166 dL_law_2167 dL_law_2168 dL_law_2169 (by omega) ?_
  refine l_arg C (k := 5) dL_law_2170 dL_law_2171 dL_law_2172 dL_law_2173 dL_law_2174 (by omega) ?_
  refine l_argB C (k := 6) dL_law_2175 dL_law_2176 dL_law_2177 dL_law_2179 dL_law_2180 rfl (by omega) ?_
  refine l_callV C (As := [vI (xs (i + 1)).toInt, vI (xs (i + 2)).toInt, vI (xs (i + 3)).toInt, vI (xs (i + 4)).toInt, vI (xs (i + 5)).toInt, vI (xs (i + 6)).toInt]) (rest := [vI z]) dL_law_2181 clL_160 k10 rfl g2 rfl (xcI z) ?_
  refine l_eq C (tgt := 2440) dL_law_2184 rfl ?_
  exact h F2 hR2
theorem law_c34 {p : Program} {l : Launch} {e : Env} {s : State} {m : MethodId} {below : List Frame} {meth : Method} {c : Code} {b L : Nat} {xs : Nat → Int32} {D : va_G} {ad : Nat → Nat} {cA : Nat → ClassId} {Q : State → Prop} {RR : Mem → Prop} (C : LX p s m meth c b L xs D ad cA) {i : Nat} {F : Mem} (hi : i + 8 < L) (hR : RR F) (hp : pcase RR gX9_both gX10_both [vI (xs (i + 1)).toInt, vI (xs (i + 2)).toInt, vI (xs (i + 3)).toInt, vI (xs (i + 4)).toInt, vI (if (xs (i + 5)).toInt = 0 then 0 else 1)]) (h : ∀ F', RR F' → LWP p l e s m below meth c b D ad cA Q 2440 i [] F') : LWP p l e s m below meth c b D ad cA Q 2189 i [] F := by
  refine lwp_mok (fun hm => ?_)
  obtain ⟨z, F1, F2, g1, g2, hR2⟩ := hp F hR hm
  refine l_x C dL_law_2189 ?_
  refine l_arg C (k := 1) dL_law_2190 dL_law_2191 dL_law_2192 dL_law_2193 dL_law_2194 (by omega) ?_
  refine l_arg C (k := 2) dL_law_2195 dL_law_2196 dL_law_2197 dL_law_2198 dL_law_2199 (by omega) ?_
  refine l_arg C (k := 3) dL_law_2200 dL_law_2201 dL_law_2202 dL_law_2203 dL_law_2204 (by omega) ?_
  refine l_arg C (k := 4) dL_law_2205 dL_law_2206 dL_law_2207 dL_law_2208 dL_law_2209 (by omega) ?_
  refine l_arg C (k := 5) dL_law_2210 dL_law_2211 dL_law_2212 dL_law_2213 dL_law_2214 (by omega) ?_
  refine l_bool C dL_law_2215 dL_law_2218 dL_law_2219 dL_law_2222 ?_
  refine l_callV C (As := [vI (xs (i + 1)).toInt, vI (xs (i + 2)).toInt, vI (xs (i + 3)).toInt, vI (xs (i + 4)).toInt, vI (if (xs (i + 5)).toInt = 0 then 0 else 1)]) (rest := []) dL_law_2223 clL_161 k9 rfl g1 rfl (Nat.zero_le _) ?_
  refine l_m C dL_law_2226 ?_
  refine l_arg C (k := 1) dL_law_2227 dL_law_2228 dL_law_2229 dL_law_2230 dL_law_2231 (by omega) ?_
  refine l_arg C (k := 2) dL_law_2232 dL_law_2233 dL_law_2234 dL_law_2235 dL_law_2236 (by omega) ?_
  refine l_arg C (k := 3) dL_law_2237 dL_law_2238 dL_law_2239 dL_law_2240 dL_law_2241 (by omega) ?_
  refine l_arg C (k := 4) dL_law_2242 dL_law_2243 dL_law_2244 dL_law_2245 dL_law_2246 (by omega) ?_
  refine l_arg C (k := 5) dL_law_2247 dL_law_2248 dL_law_2249 dL_law_2250 dL_law_2251 (by omega) ?_
  refine l_bool C dL_law_2252 dL_law_2255 dL_law_2256 dL_law_2259 ?_
  refine l_callV C (As := [vI (xs (i + 1)).toInt, vI (xs (i + 2)).toInt, vI (xs (i + 3)).toInt, vI (xs (i + 4)).toInt, vI (if (xs (i + 5)).toInt = 0 then 0 else 1)]) (rest := [vI z]) dL_law_2260 clL_164 k10 rfl g2 rfl (xcI z) ?_
  refine l_eq C (tgt := 2440) dL_law_2263 rfl ?_
  exact h F2 hR2
theorem law_c35 {p : Program} {l : Launch} {e : Env} {s : State} {m : MethodId} {below : List Frame} {meth : Method} {c : Code} {b L : Nat} {xs : Nat → Int32} {D : va_G} {ad : Nat → Nat} {cA : Nat → ClassId} {Q : State → Prop} {RR : Mem → Prop} (C : LX p s m meth c b L xs D ad cA) {i : Nat} {F : Mem} (hi : i + 8 < L) (hR : RR F) (hp : pcase RR gX9_ease gX10_ease [vI (xs (i + 1)).toInt, vI (xs (i + 2)).toInt, vI (xs (i + 3)).toInt, vI (xs (i + 4)).toInt, vI (xs (i + 5)).toInt, vI (xs (i + 6)).toInt, vI (if (xs (i + 7)).toInt = 0 then 0 else 1)]) (h : ∀ F', RR F' → LWP p l e s m below meth c b D ad cA Q 2440 i [] F') : LWP p l e s m below meth c b D ad cA Q 2268 i [] F := by
  refine lwp_mok (fun hm => ?_)
  obtain ⟨z, F1, F2, g1, g2, hR2⟩ := hp F hR hm
  refine l_x C dL_law_2268 ?_
  refine l_arg C (k := 1) dL_law_2269 dL_law_2270 dL_law_2271 dL_law_2272 dL_law_2273 (by omega) ?_
  refine l_arg C (k := 2) dL_law_2274 dL_law_2275 dL_law_2276 dL_law_2277 dL_law_2278 (by omega) ?_
  refine l_arg C (k := 3) dL_law_2279 dL_law_2280 dL_law_2281 dL_law_2282 dL_law_2283 (by omega) ?_
  refine l_arg C (k := 4) dL_law_2284 dL_law_2285 dL_law_2286 dL_law_2287 dL_law_2288 (by omega) ?_
  refine l_arg C (k := 5) dL_law_2289 dL_law_2290 dL_law_2291 dL_law_2292 dL_law_2293 (by omega) ?_
  refine l_argB C (k := 6) dL_law_2294 dL_law_2295 dL_law_2296 dL_law_2298 dL_law_2299 rfl (by omega) ?_
  refine l_argB C (k := 7) dL_law_2300 dL_law_2301 dL_law_2302 dL_law_2304 dL_law_2305 rfl (by omega) ?_
  refine l_bool C dL_law_2306 dL_law_2309 dL_law_2310 dL_law_2313 ?_
  refine l_callV C (As := [vI (xs (i + 1)).toInt, vI (xs (i + 2)).toInt, vI (xs (i + 3)).toInt, vI (xs (i + 4)).toInt, vI (xs (i + 5)).toInt, vI (xs (i + 6)).toInt, vI (if (xs (i + 7)).toInt = 0 then 0 else 1)]) (rest := []) dL_law_2314 clL_165 k9 rfl g1 rfl (Nat.zero_le _) ?_
  refine l_m C dL_law_2317 ?_
  refine l_arg C (k := 1) dL_law_2318 dL_law_2319 dL_law_2320 dL_law_2321 dL_law_2322 (by omega) ?_
  refine l_arg C (k := 2) dL_law_2323 dL_law_2324 dL_law_2325 dL_law_2326 dL_law_2327 (by omega) ?_
  refine l_arg C (k := 3) dL_law_2328 dL_law_2329 dL_law_2330 dL_law_2331 dL_law_2332 (by omega) ?_
  refine l_arg C (k := 4) dL_law_2333 dL_law_2334 dL_law_2335 dL_law_2336 dL_law_2337 (by omega) ?_
  refine l_arg C (k := 5) dL_law_2338 dL_law_2339 dL_law_2340 dL_law_2341 dL_law_2342 (by omega) ?_
  refine l_argB C (k := 6) dL_law_2343 dL_law_2344 dL_law_2345 dL_law_2347 dL_law_2348 rfl (by omega) ?_
  refine l_argB C (k := 7) dL_law_2349 dL_law_2350 dL_law_2351 dL_law_2353 dL_law_2354 rfl (by omega) ?_
  refine l_bool C dL_law_2355 dL_law_2358 dL_law_2359 dL_law_2362 ?_
  refine l_callV C (As := [vI (xs (i + 1)).toInt, vI (xs (i + 2)).toInt, vI (xs (i + 3)).toInt, vI (xs (i + 4)).toInt, vI (xs (i + 5)).toInt, vI (xs (i + 6)).toInt, vI (if (xs (i + 7)).toInt = 0 then 0 else 1)]) (rest := [vI z]) dL_law_2363 clL_169 k10 rfl g2 rfl (xcI z) ?_
  refine l_eq C (tgt := 2440) dL_law_2366 rfl ?_
  exact h F2 hR2
theorem law_c36 {p : Program} {l : Launch} {e : Env} {s : State} {m : MethodId} {below : List Frame} {meth : Method} {c : Code} {b L : Nat} {xs : Nat → Int32} {D : va_G} {ad : Nat → Nat} {cA : Nat → ClassId} {Q : State → Prop} {RR : Mem → Prop} (C : LX p s m meth c b L xs D ad cA) {i : Nat} {F : Mem} (hi : i + 8 < L) (hR : RR F) (hp : pcase RR gX9_count gX10_count [vI (xs (i + 1)).toInt]) (h : ∀ F', RR F' → LWP p l e s m below meth c b D ad cA Q 2440 i [] F') : LWP p l e s m below meth c b D ad cA Q 2371 i [] F := by
  refine lwp_mok (fun hm => ?_)
  obtain ⟨z, F1, F2, g1, g2, hR2⟩ := hp F hR hm
  refine l_x C dL_law_2371 ?_
  refine l_arg C (k := 1) dL_law_2372 dL_law_2373 dL_law_2374 dL_law_2375 dL_law_2376 (by omega) ?_
  refine l_callV C (As := [vI (xs (i + 1)).toInt]) (rest := []) dL_law_2377 clL_170 k9 rfl g1 rfl (Nat.zero_le _) ?_
  refine l_m C dL_law_2380 ?_
  refine l_arg C (k := 1) dL_law_2381 dL_law_2382 dL_law_2383 dL_law_2384 dL_law_2385 (by omega) ?_
  refine l_callV C (As := [vI (xs (i + 1)).toInt]) (rest := [vI z]) dL_law_2386 clL_173 k10 rfl g2 rfl (xcI z) ?_
  refine l_eq C (tgt := 2440) dL_law_2389 rfl ?_
  exact h F2 hR2
theorem law_c37 {p : Program} {l : Launch} {e : Env} {s : State} {m : MethodId} {below : List Frame} {meth : Method} {c : Code} {b L : Nat} {xs : Nat → Int32} {D : va_G} {ad : Nat → Nat} {cA : Nat → ClassId} {Q : State → Prop} {RR : Mem → Prop} (C : LX p s m meth c b L xs D ad cA) {i : Nat} {F : Mem} (hi : i + 8 < L) (hR : RR F) (hp : pcase RR gX9_image gX10_image [vI (xs (i + 1)).toInt]) (h : ∀ F', RR F' → LWP p l e s m below meth c b D ad cA Q 2440 i [] F') : LWP p l e s m below meth c b D ad cA Q 2394 i [] F := by
  refine lwp_mok (fun hm => ?_)
  obtain ⟨z, F1, F2, g1, g2, hR2⟩ := hp F hR hm
  refine l_x C dL_law_2394 ?_
  refine l_arg C (k := 1) dL_law_2395 dL_law_2396 dL_law_2397 dL_law_2398 dL_law_2399 (by omega) ?_
  refine l_callV C (As := [vI (xs (i + 1)).toInt]) (rest := []) dL_law_2400 clL_174 k9 rfl g1 rfl (Nat.zero_le _) ?_
  refine l_m C dL_law_2403 ?_
  refine l_arg C (k := 1) dL_law_2404 dL_law_2405 dL_law_2406 dL_law_2407 dL_law_2408 (by omega) ?_
  refine l_callV C (As := [vI (xs (i + 1)).toInt]) (rest := [vI z]) dL_law_2409 clL_178 k10 rfl g2 rfl (xcI z) ?_
  refine l_eq C (tgt := 2440) dL_law_2412 rfl ?_
  exact h F2 hR2
theorem law_c38 {p : Program} {l : Launch} {e : Env} {s : State} {m : MethodId} {below : List Frame} {meth : Method} {c : Code} {b L : Nat} {xs : Nat → Int32} {D : va_G} {ad : Nat → Nat} {cA : Nat → ClassId} {Q : State → Prop} {RR : Mem → Prop} (C : LX p s m meth c b L xs D ad cA) {i : Nat} {F : Mem} (hi : i + 8 < L) (hR : RR F) (hp : pcase RR gX9_again gX10_again [vI (xs (i + 1)).toInt]) (h : ∀ F', RR F' → LWP p l e s m below meth c b D ad cA Q 2440 i [] F') : LWP p l e s m below meth c b D ad cA Q 2417 i [] F := by
  refine lwp_mok (fun hm => ?_)
  obtain ⟨z, F1, F2, g1, g2, hR2⟩ := hp F hR hm
  refine l_x C dL_law_2417 ?_
  refine l_arg C (k := 1) dL_law_2418 dL_law_2419 dL_law_2420 dL_law_2421 dL_law_2422 (by omega) ?_
  refine l_callV C (As := [vI (xs (i + 1)).toInt]) (rest := []) dL_law_2423 clL_179 k9 rfl g1 rfl (Nat.zero_le _) ?_
  refine l_m C dL_law_2426 ?_
  refine l_arg C (k := 1) dL_law_2427 dL_law_2428 dL_law_2429 dL_law_2430 dL_law_2431 (by omega) ?_
  refine l_callV C (As := [vI (xs (i + 1)).toInt]) (rest := [vI z]) dL_law_2432 clL_182 k10 rfl g2 rfl (xcI z) ?_
  refine l_eq C (tgt := 2440) dL_law_2435 rfl ?_
  exact h F2 hR2
def lawC (RR : Mem → Prop) (i : Nat) (xs : Nat → Int32) : Nat → Prop
  | 0 => pcase RR gX9_feed gX10_feed [vI (xs (i + 1)).toInt, vI (xs (i + 2)).toInt, vI (xs (i + 3)).toInt, vI (xs (i + 4)).toInt, vI (xs (i + 5)).toInt]
  | 1 => pcase RR gX9_end gX10_end [vI (xs (i + 1)).toInt]
  | 2 => pcase RR gX9_text gX10_text [vI (xs (i + 1)).toInt, vI (xs (i + 2)).toInt]
  | 3 => pcase RR gX9_fault gX10_fault [vI (xs (i + 1)).toInt]
  | 4 => pcase RR gX9_valley gX10_valley [vI (xs (i + 1)).toInt, vI (xs (i + 2)).toInt]
  | 5 => pcase RR gX9_house gX10_house [vI (xs (i + 1)).toInt, vI (xs (i + 2)).toInt, vI (xs (i + 3)).toInt]
  | 6 => pcase RR gX9_way gX10_way [vI (xs (i + 1)).toInt, vI (xs (i + 2)).toInt, vI (xs (i + 3)).toInt, vI (if (xs (i + 4)).toInt = 0 then 0 else 1)]
  | 7 => pcase RR gX9_leg gX10_leg [vI (xs (i + 1)).toInt, vI (xs (i + 2)).toInt, vI (xs (i + 3)).toInt]
  | 8 => pcase RR gX9_play gX10_play [vI (xs (i + 1)).toInt, vI (xs (i + 2)).toInt, vI (xs (i + 3)).toInt]
  | 9 => pcase RR gX9_where gX10_where [vI (xs (i + 1)).toInt, vI (xs (i + 2)).toInt, vI (xs (i + 3)).toInt]
  | 10 => pcase RR gX9_row gX10_row [vI (xs (i + 1)).toInt, vI (xs (i + 2)).toInt, vI (xs (i + 3)).toInt, vI (xs (i + 4)).toInt, vI (xs (i + 5)).toInt]
  | 11 => pcase RR gX9_rows gX10_rows_ [vI (xs (i + 1)).toInt, vI (xs (i + 2)).toInt, vI (xs (i + 3)).toInt, vI (xs (i + 4)).toInt]
  | 12 => pcase RR gX9_deed gX10_deed [vI (xs (i + 1)).toInt, vI (xs (i + 2)).toInt, vI (xs (i + 3)).toInt]
  | 13 => pcase RR gX9_stop gX10_stop [vI (xs (i + 1)).toInt]
  | 14 => pcase RR gX9_owner gX10_owner [vI (xs (i + 1)).toInt, vI (xs (i + 2)).toInt, vI (xs (i + 3)).toInt, vI (xs (i + 4)).toInt, vI (if (xs (i + 5)).toInt = 0 then 0 else 1)]
  | 15 => pcase RR gX9_has gX10_has [vI (xs (i + 1)).toInt, vI (xs (i + 2)).toInt, vI (xs (i + 3)).toInt, vI (xs (i + 4)).toInt]
  | 16 => pcase RR gX9_lawful gX10_lawful [vI (xs (i + 1)).toInt, vI (xs (i + 2)).toInt, vI (xs (i + 3)).toInt, vI (xs (i + 4)).toInt, vI (xs (i + 5)).toInt]
  | 17 => pcase RR gX9_best gX10_best [vI (xs (i + 1)).toInt, vI (xs (i + 2)).toInt, vI (xs (i + 3)).toInt, vI (xs (i + 4)).toInt, vI (xs (i + 5)).toInt, vI (xs (i + 6)).toInt]
  | 18 => pcase RR gX9_spot gX10_spot [vI (xs (i + 1)).toInt, vI (xs (i + 2)).toInt, vI (xs (i + 3)).toInt, vI (xs (i + 4)).toInt, vI (xs (i + 5)).toInt, vI (xs (i + 6)).toInt, vI (xs (i + 7)).toInt]
  | 19 => pcase RR gX9_harm gX10_harm [vI (xs (i + 1)).toInt, vI (xs (i + 2)).toInt, vI (xs (i + 3)).toInt, vI (xs (i + 4)).toInt, vI (xs (i + 5)).toInt, vI (xs (i + 6)).toInt, vI (xs (i + 7)).toInt, vI (if (xs (i + 8)).toInt = 0 then 0 else 1)]
  | 20 => pcase RR gX9_soon gX10_soon [vI (xs (i + 1)).toInt, vI (xs (i + 2)).toInt, vI (xs (i + 3)).toInt, vI (xs (i + 4)).toInt, vI (xs (i + 5)).toInt, vI (xs (i + 6)).toInt]
  | 21 => pcase RR gX9_worth gX10_worth [vI (xs (i + 1)).toInt, vI (xs (i + 2)).toInt, vI (xs (i + 3)).toInt, vI (xs (i + 4)).toInt, vI (xs (i + 5)).toInt, vI (xs (i + 6)).toInt, vI (xs (i + 7)).toInt]
  | 22 => pcase RR gX9_pays gX10_pays [vI (xs (i + 1)).toInt, vI (xs (i + 2)).toInt, vI (xs (i + 3)).toInt, vI (xs (i + 4)).toInt, vI (xs (i + 5)).toInt, vI (xs (i + 6)).toInt, vI (xs (i + 7)).toInt, vI (xs (i + 8)).toInt]
  | 23 => pcase RR gX9_deal gX10_deal [vI (xs (i + 1)).toInt, vI (xs (i + 2)).toInt, vI (xs (i + 3)).toInt, vI (xs (i + 4)).toInt, vI (xs (i + 5)).toInt, vI (xs (i + 6)).toInt, vI (xs (i + 7)).toInt]
  | 24 => pcase RR gX9_halved gX10_halved [vI (xs (i + 1)).toInt, vI (xs (i + 2)).toInt, vI (xs (i + 3)).toInt, vI (xs (i + 4)).toInt, vI (xs (i + 5)).toInt]
  | 25 => pcase RR gX9_needs gX10_needs [vI (xs (i + 1)).toInt, vI (xs (i + 2)).toInt, vI (xs (i + 3)).toInt, vI (xs (i + 4)).toInt, vI (xs (i + 5)).toInt, vI (xs (i + 6)).toInt, vI (xs (i + 7)).toInt]
  | 26 => pcase RR gX9_day gX10_day [vI (xs (i + 1)).toInt, vI (xs (i + 2)).toInt, vI (xs (i + 3)).toInt, vI (xs (i + 4)).toInt, vI (xs (i + 5)).toInt]
  | 27 => pcase RR gX9_cross gX10_cross [vI (xs (i + 1)).toInt, vI (xs (i + 2)).toInt]
  | 28 => pcase RR gX9_error gX10_error [vI (xs (i + 1)).toInt, vI (xs (i + 2)).toInt, vI (xs (i + 3)).toInt]
  | 29 => pcase RR gX9_blame gX10_blame [vI (xs (i + 1)).toInt, vI (xs (i + 2)).toInt, vI (xs (i + 3)).toInt, vI (xs (i + 4)).toInt]
  | 30 => pcase RR gX9_likely gX10_likely [vI (xs (i + 1)).toInt, vI (xs (i + 2)).toInt]
  | 31 => pcase RR gX9_home gX10_home [vI (xs (i + 1)).toInt, vI (xs (i + 2)).toInt, vI (xs (i + 3)).toInt, vI (xs (i + 4)).toInt, vI (xs (i + 5)).toInt]
  | 32 => pcaseL RR gX9_ways gX10_ways [vI (xs (i + 1)).toInt, vI (xs (i + 2)).toInt, vI (xs (i + 3)).toInt, vI (xs (i + 4)).toInt]
  | 33 => pcase RR gX9_buys gX10_buys [vI (xs (i + 1)).toInt, vI (xs (i + 2)).toInt, vI (xs (i + 3)).toInt, vI (xs (i + 4)).toInt, vI (xs (i + 5)).toInt, vI (xs (i + 6)).toInt]
  | 34 => pcase RR gX9_both gX10_both [vI (xs (i + 1)).toInt, vI (xs (i + 2)).toInt, vI (xs (i + 3)).toInt, vI (xs (i + 4)).toInt, vI (if (xs (i + 5)).toInt = 0 then 0 else 1)]
  | 35 => pcase RR gX9_ease gX10_ease [vI (xs (i + 1)).toInt, vI (xs (i + 2)).toInt, vI (xs (i + 3)).toInt, vI (xs (i + 4)).toInt, vI (xs (i + 5)).toInt, vI (xs (i + 6)).toInt, vI (if (xs (i + 7)).toInt = 0 then 0 else 1)]
  | 36 => pcase RR gX9_count gX10_count [vI (xs (i + 1)).toInt]
  | 37 => pcase RR gX9_image gX10_image [vI (xs (i + 1)).toInt]
  | 38 => pcase RR gX9_again gX10_again [vI (xs (i + 1)).toInt]
  | _ => True
theorem l_table {p : Program} {l : Launch} {e : Env} {s : State} {m : MethodId} {below : List Frame} {meth : Method} {c : Code} {b L : Nat} {xs : Nat → Int32} {D : va_G} {ad : Nat → Nat} {cA : Nat → ClassId} {Q : State → Prop} (C : LX p s m meth c b L xs D ad cA) {i : Nat} {F : Mem} {a : Int} (ha : in32 a) (hi : ∀ j : Nat, a = (j : Int) → j < 39 → ∃ tgt : Nat, (#[171, 234, 257, 290, 313, 346, 389, 458, 501, 544, 587, 650, 703, 746, 769, 848, 901, 964, 1039, 1126, 1241, 1316, 1403, 1502, 1589, 1652, 1739, 1802, 1835, 1878, 1931, 1964, 2027, 2081, 2156, 2235, 2338, 2361, 2384] : Array Int)[j]? = some (tgt : Int) ∧ LWP p l e s m below meth c b D ad cA Q (33 + tgt) i [] F) (ho : LWP p l e s m below meth c b D ad cA Q 2440 i [] F) : LWP p l e s m below meth c b D ad cA Q 33 i [vI a] F := by
  intro H locs lsA hm hs hP hD hS hL
  by_cases hc : a < 0 ∨ 38 < a
  · refine lv_tableOut (tgt := 2440) C.1 C.2.1 dL_law_33 (by rw [i32_toInt' ha]; exact hc) rfl ?_
    exact ho H locs lsA hm (st_tl hs) hP hD hS hL
  · obtain ⟨tgt, h1, h2⟩ := hi a.toNat (by omega) (by omega)
    refine lv_tableIn (tgt := 33 + tgt) (off := (tgt : Int)) C.1 C.2.1 dL_law_33 (by rw [i32_toInt' ha]; omega) (by rw [i32_toInt' ha]; omega) (by rw [i32_toInt' ha]; rw [show (a - 0).toNat = a.toNat by omega]; exact h1) (by omega) ?_
    exact h2 H locs lsA hm (st_tl hs) hP hD hS hL
set_option maxHeartbeats 4000000 in
theorem law_sw {p : Program} {l : Launch} {e : Env} {s : State} {m : MethodId} {below : List Frame} {meth : Method} {c : Code} {b L : Nat} {xs : Nat → Int32} {D : va_G} {ad : Nat → Nat} {cA : Nat → ClassId} {Q : State → Prop} {RR : Mem → Prop} (C : LX p s m meth c b L xs D ad cA) {i : Nat} {F : Mem} {a : Int} (ha : in32 a) (hi : i + 8 < L) (hR : RR F) (hp : ∀ j, lawC RR i xs j) (h : ∀ F', RR F' → LWP p l e s m below meth c b D ad cA Q 2440 i [] F') : LWP p l e s m below meth c b D ad cA Q 33 i [vI a] F := by
  refine l_table C ha (fun j ha hj => ?_) (h F hR)
  match j, hj with
  | 0, _ => exact ⟨171, rfl, law_c0 C hi hR (hp 0) h⟩
  | 1, _ => exact ⟨234, rfl, law_c1 C hi hR (hp 1) h⟩
  | 2, _ => exact ⟨257, rfl, law_c2 C hi hR (hp 2) h⟩
  | 3, _ => exact ⟨290, rfl, law_c3 C hi hR (hp 3) h⟩
  | 4, _ => exact ⟨313, rfl, law_c4 C hi hR (hp 4) h⟩
  | 5, _ => exact ⟨346, rfl, law_c5 C hi hR (hp 5) h⟩
  | 6, _ => exact ⟨389, rfl, law_c6 C hi hR (hp 6) h⟩
  | 7, _ => exact ⟨458, rfl, law_c7 C hi hR (hp 7) h⟩
  | 8, _ => exact ⟨501, rfl, law_c8 C hi hR (hp 8) h⟩
  | 9, _ => exact ⟨544, rfl, law_c9 C hi hR (hp 9) h⟩
  | 10, _ => exact ⟨587, rfl, law_c10 C hi hR (hp 10) h⟩
  | 11, _ => exact ⟨650, rfl, law_c11 C hi hR (hp 11) h⟩
  | 12, _ => exact ⟨703, rfl, law_c12 C hi hR (hp 12) h⟩
  | 13, _ => exact ⟨746, rfl, law_c13 C hi hR (hp 13) h⟩
  | 14, _ => exact ⟨769, rfl, law_c14 C hi hR (hp 14) h⟩
  | 15, _ => exact ⟨848, rfl, law_c15 C hi hR (hp 15) h⟩
  | 16, _ => exact ⟨901, rfl, law_c16 C hi hR (hp 16) h⟩
  | 17, _ => exact ⟨964, rfl, law_c17 C hi hR (hp 17) h⟩
  | 18, _ => exact ⟨1039, rfl, law_c18 C hi hR (hp 18) h⟩
  | 19, _ => exact ⟨1126, rfl, law_c19 C hi hR (hp 19) h⟩
  | 20, _ => exact ⟨1241, rfl, law_c20 C hi hR (hp 20) h⟩
  | 21, _ => exact ⟨1316, rfl, law_c21 C hi hR (hp 21) h⟩
  | 22, _ => exact ⟨1403, rfl, law_c22 C hi hR (hp 22) h⟩
  | 23, _ => exact ⟨1502, rfl, law_c23 C hi hR (hp 23) h⟩
  | 24, _ => exact ⟨1589, rfl, law_c24 C hi hR (hp 24) h⟩
  | 25, _ => exact ⟨1652, rfl, law_c25 C hi hR (hp 25) h⟩
  | 26, _ => exact ⟨1739, rfl, law_c26 C hi hR (hp 26) h⟩
  | 27, _ => exact ⟨1802, rfl, law_c27 C hi hR (hp 27) h⟩
  | 28, _ => exact ⟨1835, rfl, law_c28 C hi hR (hp 28) h⟩
  | 29, _ => exact ⟨1878, rfl, law_c29 C hi hR (hp 29) h⟩
  | 30, _ => exact ⟨1931, rfl, law_c30 C hi hR (hp 30) h⟩
  | 31, _ => exact ⟨1964, rfl, law_c31 C hi hR (hp 31) h⟩
  | 32, _ => exact ⟨2027, rfl, law_c32 C hi hR (hp 32) h⟩
  | 33, _ => exact ⟨2081, rfl, law_c33 C hi hR (hp 33) h⟩
  | 34, _ => exact ⟨2156, rfl, law_c34 C hi hR (hp 34) h⟩
  | 35, _ => exact ⟨2235, rfl, law_c35 C hi hR (hp 35) h⟩
  | 36, _ => exact ⟨2338, rfl, law_c36 C hi hR (hp 36) h⟩
  | 37, _ => exact ⟨2361, rfl, law_c37 C hi hR (hp 37) h⟩
  | 38, _ => exact ⟨2384, rfl, law_c38 C hi hR (hp 38) h⟩
  | n + 39, hj => exact absurd hj (by omega)
