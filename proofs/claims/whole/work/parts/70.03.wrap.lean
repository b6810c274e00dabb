/-! MATHEMATICS (3): printed by wrap.py: the wrappers of the law -/
theorem wL_box_ok {xs : Nat → Int32} {xl d : Nat} {a1 : Int32} {a2 : Int32} {a3 : Int32} {a4 : Int32} {a5 : Int32} {a6 : Int32} {a7 : Int32} {M M1 : dp_M} {x : Int32} (h : dp_den true xs xl d 264 [.ref 0, .int a1, .int a2, .int a3, .int a4, .int a5, .int a6, .int a7] M = some (.inl (some (.int x)), M1)) : dp_den true xs xl (d + 1) 595 [.ref 0, .int a1, .int a2, .int a3, .int a4, .int a5, .int a6, .int a7, .ref 245] M = iR 0 (dp_setJ M1 245 0 x.toInt64) := by
  rw [D_L_box_0_den, D_L_box_0_eq, h]
  rfl
theorem wL_box_x0 {xs : Nat → Int32} {xl d : Nat} {a1 : Int32} {a2 : Int32} {a3 : Int32} {a4 : Int32} {a5 : Int32} {a6 : Int32} {a7 : Int32} {M M1 : dp_M} (h : dp_den true xs xl d 264 [.ref 0, .int a1, .int a2, .int a3, .int a4, .int a5, .int a6, .int a7] M = some (.inr 0, M1)) : dp_den true xs xl (d + 1) 595 [.ref 0, .int a1, .int a2, .int a3, .int a4, .int a5, .int a6, .int a7, .ref 245] M = iR 1 M1 := by
  rw [D_L_box_0_den, D_L_box_0_eq, h]
  rfl
theorem wL_box_x1 {xs : Nat → Int32} {xl d : Nat} {a1 : Int32} {a2 : Int32} {a3 : Int32} {a4 : Int32} {a5 : Int32} {a6 : Int32} {a7 : Int32} {M M1 : dp_M} (h : dp_den true xs xl d 264 [.ref 0, .int a1, .int a2, .int a3, .int a4, .int a5, .int a6, .int a7] M = some (.inr 1, M1)) : dp_den true xs xl (d + 1) 595 [.ref 0, .int a1, .int a2, .int a3, .int a4, .int a5, .int a6, .int a7, .ref 245] M = iR 2 M1 := by
  rw [D_L_box_0_den, D_L_box_0_eq, h]
  rfl
theorem wL_plan_ok {xs : Nat → Int32} {xl d : Nat} {a1 : Int32} {M M1 : dp_M} {x : Int32} (h : dp_den true xs xl d 266 [.ref 0, .int a1] M = some (.inl (some (.int x)), M1)) : dp_den true xs xl (d + 1) 596 [.ref 0, .int a1, .ref 245] M = iR 0 (dp_setJ M1 245 0 x.toInt64) := by
  rw [D_L_plan_0_den, D_L_plan_0_eq, h]
  rfl
theorem wL_plan_x0 {xs : Nat → Int32} {xl d : Nat} {a1 : Int32} {M M1 : dp_M} (h : dp_den true xs xl d 266 [.ref 0, .int a1] M = some (.inr 0, M1)) : dp_den true xs xl (d + 1) 596 [.ref 0, .int a1, .ref 245] M = iR 1 M1 := by
  rw [D_L_plan_0_den, D_L_plan_0_eq, h]
  rfl
theorem wL_move_ok {xs : Nat → Int32} {xl d : Nat} {a1 : Int32} {a2 : Int32} {a3 : Int32} {M M1 : dp_M} {x : Int32} (h : dp_den true xs xl d 267 [.ref 0, .int a1, .int a2, .int a3] M = some (.inl (some (.int x)), M1)) : dp_den true xs xl (d + 1) 597 [.ref 0, .int a1, .int a2, .int a3, .ref 245] M = iR 0 (dp_setJ M1 245 0 x.toInt64) := by
  rw [D_L_move_0_den, D_L_move_0_eq, h]
  rfl
theorem wL_move_x2 {xs : Nat → Int32} {xl d : Nat} {a1 : Int32} {a2 : Int32} {a3 : Int32} {M M1 : dp_M} (h : dp_den true xs xl d 267 [.ref 0, .int a1, .int a2, .int a3] M = some (.inr 2, M1)) : dp_den true xs xl (d + 1) 597 [.ref 0, .int a1, .int a2, .int a3, .ref 245] M = iR 1 M1 := by
  rw [D_L_move_0_den, D_L_move_0_eq, h]
  rfl
theorem wL_work_ok {xs : Nat → Int32} {xl d : Nat} {a1 : Int32} {M M1 : dp_M} {x : Int32} (h : dp_den true xs xl d 268 [.ref 0, .int a1] M = some (.inl (some (.int x)), M1)) : dp_den true xs xl (d + 1) 598 [.ref 0, .int a1, .ref 245] M = iR 0 (dp_setJ M1 245 0 x.toInt64) := by
  rw [D_L_work_0_den, D_L_work_0_eq, h]
  rfl
theorem wL_work_x0 {xs : Nat → Int32} {xl d : Nat} {a1 : Int32} {M M1 : dp_M} (h : dp_den true xs xl d 268 [.ref 0, .int a1] M = some (.inr 0, M1)) : dp_den true xs xl (d + 1) 598 [.ref 0, .int a1, .ref 245] M = iR 1 M1 := by
  rw [D_L_work_0_den, D_L_work_0_eq, h]
  rfl
theorem wL_work_x1 {xs : Nat → Int32} {xl d : Nat} {a1 : Int32} {M M1 : dp_M} (h : dp_den true xs xl d 268 [.ref 0, .int a1] M = some (.inr 1, M1)) : dp_den true xs xl (d + 1) 598 [.ref 0, .int a1, .ref 245] M = iR 2 M1 := by
  rw [D_L_work_0_den, D_L_work_0_eq, h]
  rfl
theorem wL_least_ok {xs : Nat → Int32} {xl d : Nat} {a1 : Int32} {M M1 : dp_M} {x : Int32} (h : dp_den true xs xl d 269 [.ref 0, .int a1] M = some (.inl (some (.int x)), M1)) : dp_den true xs xl (d + 1) 599 [.ref 0, .int a1, .ref 245] M = iR 0 (dp_setJ M1 245 0 x.toInt64) := by
  rw [D_L_least_0_den, D_L_least_0_eq, h]
  rfl
theorem wL_least_x0 {xs : Nat → Int32} {xl d : Nat} {a1 : Int32} {M M1 : dp_M} (h : dp_den true xs xl d 269 [.ref 0, .int a1] M = some (.inr 0, M1)) : dp_den true xs xl (d + 1) 599 [.ref 0, .int a1, .ref 245] M = iR 1 M1 := by
  rw [D_L_least_0_den, D_L_least_0_eq, h]
  rfl
theorem wL_swap_ok {xs : Nat → Int32} {xl d : Nat} {a1 : Int32} {a2 : Int32} {M M1 : dp_M} {x : Int32} (h : dp_den true xs xl d 270 [.ref 0, .int a1, .int a2] M = some (.inl (some (.int x)), M1)) : dp_den true xs xl (d + 1) 600 [.ref 0, .int a1, .int a2, .ref 245] M = iR 0 (dp_setJ M1 245 0 x.toInt64) := by
  rw [D_L_swap_0_den, D_L_swap_0_eq, h]
  rfl
theorem wL_swap_x0 {xs : Nat → Int32} {xl d : Nat} {a1 : Int32} {a2 : Int32} {M M1 : dp_M} (h : dp_den true xs xl d 270 [.ref 0, .int a1, .int a2] M = some (.inr 0, M1)) : dp_den true xs xl (d + 1) 600 [.ref 0, .int a1, .int a2, .ref 245] M = iR 1 M1 := by
  rw [D_L_swap_0_den, D_L_swap_0_eq, h]
  rfl
theorem wL_aboard_ok {xs : Nat → Int32} {xl d : Nat} {a1 : Int32} {a2 : Int32} {M M1 : dp_M} {x : Int32} (h : dp_den true xs xl d 271 [.ref 0, .int a1, .int a2] M = some (.inl (some (.int x)), M1)) : dp_den true xs xl (d + 1) 601 [.ref 0, .int a1, .int a2, .ref 245] M = iR 0 (dp_setJ M1 245 0 x.toInt64) := by
  rw [D_L_aboard_0_den, D_L_aboard_0_eq, h]
  rfl
theorem wL_aboard_x2 {xs : Nat → Int32} {xl d : Nat} {a1 : Int32} {a2 : Int32} {M M1 : dp_M} (h : dp_den true xs xl d 271 [.ref 0, .int a1, .int a2] M = some (.inr 2, M1)) : dp_den true xs xl (d + 1) 601 [.ref 0, .int a1, .int a2, .ref 245] M = iR 1 M1 := by
  rw [D_L_aboard_0_den, D_L_aboard_0_eq, h]
  rfl
theorem wL_put_ok {xs : Nat → Int32} {xl d : Nat} {a1 : Int32} {a2 : Int32} {M M1 : dp_M} {x : Int32} (h : dp_den true xs xl d 274 [.ref 0, .int a1, .int a2] M = some (.inl (some (.int x)), M1)) : dp_den true xs xl (d + 1) 602 [.ref 0, .int a1, .int a2, .ref 245] M = iR 0 (dp_setJ M1 245 0 x.toInt64) := by
  rw [D_L_put_0_den, D_L_put_0_eq, h]
  rfl
theorem wL_put_x2 {xs : Nat → Int32} {xl d : Nat} {a1 : Int32} {a2 : Int32} {M M1 : dp_M} (h : dp_den true xs xl d 274 [.ref 0, .int a1, .int a2] M = some (.inr 2, M1)) : dp_den true xs xl (d + 1) 602 [.ref 0, .int a1, .int a2, .ref 245] M = iR 1 M1 := by
  rw [D_L_put_0_den, D_L_put_0_eq, h]
  rfl
theorem wL_take_ok {xs : Nat → Int32} {xl d : Nat} {a1 : Int32} {M M1 : dp_M} {x : Int32} (h : dp_den true xs xl d 275 [.ref 0, .int a1] M = some (.inl (some (.int x)), M1)) : dp_den true xs xl (d + 1) 603 [.ref 0, .int a1, .ref 245] M = iR 0 (dp_setJ M1 245 0 x.toInt64) := by
  rw [D_L_take_0_den, D_L_take_0_eq, h]
  rfl
theorem wL_take_x2 {xs : Nat → Int32} {xl d : Nat} {a1 : Int32} {M M1 : dp_M} (h : dp_den true xs xl d 275 [.ref 0, .int a1] M = some (.inr 2, M1)) : dp_den true xs xl (d + 1) 603 [.ref 0, .int a1, .ref 245] M = iR 1 M1 := by
  rw [D_L_take_0_den, D_L_take_0_eq, h]
  rfl
theorem wL_shift_ok {xs : Nat → Int32} {xl d : Nat} {a1 : Int32} {a2 : Int32} {M M1 : dp_M} {x : Int32} (h : dp_den true xs xl d 276 [.ref 0, .int a1, .int a2] M = some (.inl (some (.int x)), M1)) : dp_den true xs xl (d + 1) 604 [.ref 0, .int a1, .int a2, .ref 245] M = iR 0 (dp_setJ M1 245 0 x.toInt64) := by
  rw [D_L_shift_0_den, D_L_shift_0_eq, h]
  rfl
theorem wL_shift_x2 {xs : Nat → Int32} {xl d : Nat} {a1 : Int32} {a2 : Int32} {M M1 : dp_M} (h : dp_den true xs xl d 276 [.ref 0, .int a1, .int a2] M = some (.inr 2, M1)) : dp_den true xs xl (d + 1) 604 [.ref 0, .int a1, .int a2, .ref 245] M = iR 1 M1 := by
  rw [D_L_shift_0_den, D_L_shift_0_eq, h]
  rfl
theorem wL_choose_ok {xs : Nat → Int32} {xl d : Nat} {a1 : Int32} {M M1 : dp_M} {x : Int32} (h : dp_den true xs xl d 277 [.ref 0, .int a1] M = some (.inl (some (.int x)), M1)) : dp_den true xs xl (d + 1) 605 [.ref 0, .int a1, .ref 245] M = iR 0 (dp_setJ M1 245 0 x.toInt64) := by
  rw [D_L_choose_0_den, D_L_choose_0_eq, h]
  rfl
theorem wL_choose_x2 {xs : Nat → Int32} {xl d : Nat} {a1 : Int32} {M M1 : dp_M} (h : dp_den true xs xl d 277 [.ref 0, .int a1] M = some (.inr 2, M1)) : dp_den true xs xl (d + 1) 605 [.ref 0, .int a1, .ref 245] M = iR 1 M1 := by
  rw [D_L_choose_0_den, D_L_choose_0_eq, h]
  rfl
theorem wL_night_ok {xs : Nat → Int32} {xl d : Nat} {a1 : Int32} {M M1 : dp_M} {x : Int32} (h : dp_den true xs xl d 278 [.ref 0, .int a1] M = some (.inl (some (.int x)), M1)) : dp_den true xs xl (d + 1) 606 [.ref 0, .int a1, .ref 245] M = iR 0 (dp_setJ M1 245 0 x.toInt64) := by
  rw [D_L_night_0_den, D_L_night_0_eq, h]
  rfl
theorem wL_night_x0 {xs : Nat → Int32} {xl d : Nat} {a1 : Int32} {M M1 : dp_M} (h : dp_den true xs xl d 278 [.ref 0, .int a1] M = some (.inr 0, M1)) : dp_den true xs xl (d + 1) 606 [.ref 0, .int a1, .ref 245] M = iR 1 M1 := by
  rw [D_L_night_0_den, D_L_night_0_eq, h]
  rfl
theorem wL_where_ok {xs : Nat → Int32} {xl d : Nat} {a1 : Int32} {a2 : Int32} {M M1 : dp_M} {x : Int32} (h : dp_den true xs xl d 280 [.ref 0, .int a1, .int a2] M = some (.inl (some (.int x)), M1)) : dp_den true xs xl (d + 1) 607 [.ref 0, .int a1, .int a2, .ref 245] M = iR 0 (dp_setJ M1 245 0 x.toInt64) := by
  rw [D_L_where_0_den, D_L_where_0_eq, h]
  rfl
theorem wL_where_x2 {xs : Nat → Int32} {xl d : Nat} {a1 : Int32} {a2 : Int32} {M M1 : dp_M} (h : dp_den true xs xl d 280 [.ref 0, .int a1, .int a2] M = some (.inr 2, M1)) : dp_den true xs xl (d + 1) 607 [.ref 0, .int a1, .int a2, .ref 245] M = iR 1 M1 := by
  rw [D_L_where_0_den, D_L_where_0_eq, h]
  rfl
theorem wL_at_ok {xs : Nat → Int32} {xl d : Nat} {a1 : Int32} {a2 : Int32} {M M1 : dp_M} {x : Int32} (h : dp_den true xs xl d 281 [.ref 0, .int a1, .int a2] M = some (.inl (some (.int x)), M1)) : dp_den true xs xl (d + 1) 608 [.ref 0, .int a1, .int a2, .ref 245] M = iR 0 (dp_setJ M1 245 0 x.toInt64) := by
  rw [D_L_at_0_den, D_L_at_0_eq, h]
  rfl
theorem wL_at_x2 {xs : Nat → Int32} {xl d : Nat} {a1 : Int32} {a2 : Int32} {M M1 : dp_M} (h : dp_den true xs xl d 281 [.ref 0, .int a1, .int a2] M = some (.inr 2, M1)) : dp_den true xs xl (d + 1) 608 [.ref 0, .int a1, .int a2, .ref 245] M = iR 1 M1 := by
  rw [D_L_at_0_den, D_L_at_0_eq, h]
  rfl
theorem wL_goods_ok {xs : Nat → Int32} {xl d : Nat} {a1 : Int32} {a2 : Int32} {M M1 : dp_M} {x : Int32} (h : dp_den true xs xl d 282 [.ref 0, .int a1, .int a2] M = some (.inl (some (.int x)), M1)) : dp_den true xs xl (d + 1) 609 [.ref 0, .int a1, .int a2, .ref 245] M = iR 0 (dp_setJ M1 245 0 x.toInt64) := by
  rw [D_L_goods_0_den, D_L_goods_0_eq, h]
  rfl
theorem wL_goods_x0 {xs : Nat → Int32} {xl d : Nat} {a1 : Int32} {a2 : Int32} {M M1 : dp_M} (h : dp_den true xs xl d 282 [.ref 0, .int a1, .int a2] M = some (.inr 0, M1)) : dp_den true xs xl (d + 1) 609 [.ref 0, .int a1, .int a2, .ref 245] M = iR 1 M1 := by
  rw [D_L_goods_0_den, D_L_goods_0_eq, h]
  rfl
theorem wL_goods_x1 {xs : Nat → Int32} {xl d : Nat} {a1 : Int32} {a2 : Int32} {M M1 : dp_M} (h : dp_den true xs xl d 282 [.ref 0, .int a1, .int a2] M = some (.inr 1, M1)) : dp_den true xs xl (d + 1) 609 [.ref 0, .int a1, .int a2, .ref 245] M = iR 2 M1 := by
  rw [D_L_goods_0_den, D_L_goods_0_eq, h]
  rfl
theorem wL_bar_ok {xs : Nat → Int32} {xl d : Nat} {a1 : Int32} {a2 : Int32} {a3 : Int32} {a4 : Int32} {M M1 : dp_M} {x : Int32} (h : dp_den true xs xl d 284 [.ref 0, .int a1, .int a2, .int a3, .int a4] M = some (.inl (some (.int x)), M1)) : dp_den true xs xl (d + 1) 610 [.ref 0, .int a1, .int a2, .int a3, .int a4, .ref 245] M = iR 0 (dp_setJ M1 245 0 x.toInt64) := by
  rw [D_L_bar_0_den, D_L_bar_0_eq, h]
  rfl
theorem wL_bar_x0 {xs : Nat → Int32} {xl d : Nat} {a1 : Int32} {a2 : Int32} {a3 : Int32} {a4 : Int32} {M M1 : dp_M} (h : dp_den true xs xl d 284 [.ref 0, .int a1, .int a2, .int a3, .int a4] M = some (.inr 0, M1)) : dp_den true xs xl (d + 1) 610 [.ref 0, .int a1, .int a2, .int a3, .int a4, .ref 245] M = iR 1 M1 := by
  rw [D_L_bar_0_den, D_L_bar_0_eq, h]
  rfl
theorem wL_lift_ok {xs : Nat → Int32} {xl d : Nat} {a1 : Int32} {a2 : Int32} {a3 : Int32} {a4 : Int32} {M M1 : dp_M} {x : Int32} (h : dp_den true xs xl d 285 [.ref 0, .int a1, .int a2, .int a3, .int a4] M = some (.inl (some (.int x)), M1)) : dp_den true xs xl (d + 1) 611 [.ref 0, .int a1, .int a2, .int a3, .int a4, .ref 245] M = iR 0 (dp_setJ M1 245 0 x.toInt64) := by
  rw [D_L_lift_0_den, D_L_lift_0_eq, h]
  rfl
theorem wL_lift_x0 {xs : Nat → Int32} {xl d : Nat} {a1 : Int32} {a2 : Int32} {a3 : Int32} {a4 : Int32} {M M1 : dp_M} (h : dp_den true xs xl d 285 [.ref 0, .int a1, .int a2, .int a3, .int a4] M = some (.inr 0, M1)) : dp_den true xs xl (d + 1) 611 [.ref 0, .int a1, .int a2, .int a3, .int a4, .ref 245] M = iR 1 M1 := by
  rw [D_L_lift_0_den, D_L_lift_0_eq, h]
  rfl
theorem wL_join_ok {xs : Nat → Int32} {xl d : Nat} {a1 : Int32} {a2 : Int32} {M M1 : dp_M} {x : Int32} (h : dp_den true xs xl d 286 [.ref 0, .int a1, .int a2] M = some (.inl (some (.int x)), M1)) : dp_den true xs xl (d + 1) 612 [.ref 0, .int a1, .int a2, .ref 245] M = iR 0 (dp_setJ M1 245 0 x.toInt64) := by
  rw [D_L_join_0_den, D_L_join_0_eq, h]
  rfl
theorem wL_join_x0 {xs : Nat → Int32} {xl d : Nat} {a1 : Int32} {a2 : Int32} {M M1 : dp_M} (h : dp_den true xs xl d 286 [.ref 0, .int a1, .int a2] M = some (.inr 0, M1)) : dp_den true xs xl (d + 1) 612 [.ref 0, .int a1, .int a2, .ref 245] M = iR 1 M1 := by
  rw [D_L_join_0_den, D_L_join_0_eq, h]
  rfl
theorem wL_release_ok {xs : Nat → Int32} {xl d : Nat} {a1 : Int32} {M M1 : dp_M} {x : Int32} (h : dp_den true xs xl d 288 [.ref 0, .int a1] M = some (.inl (some (.int x)), M1)) : dp_den true xs xl (d + 1) 613 [.ref 0, .int a1, .ref 245] M = iR 0 (dp_setJ M1 245 0 x.toInt64) := by
  rw [D_L_release_0_den, D_L_release_0_eq, h]
  rfl
theorem wL_release_x0 {xs : Nat → Int32} {xl d : Nat} {a1 : Int32} {M M1 : dp_M} (h : dp_den true xs xl d 288 [.ref 0, .int a1] M = some (.inr 0, M1)) : dp_den true xs xl (d + 1) 613 [.ref 0, .int a1, .ref 245] M = iR 1 M1 := by
  rw [D_L_release_0_den, D_L_release_0_eq, h]
  rfl
theorem wL_bars_ok {xs : Nat → Int32} {xl d : Nat} {a1 : Int32} {a2 : Int32} {M M1 : dp_M} {x : Int32} (h : dp_den true xs xl d 289 [.ref 0, .int a1, .int a2] M = some (.inl (some (.int x)), M1)) : dp_den true xs xl (d + 1) 614 [.ref 0, .int a1, .int a2, .ref 245] M = iR 0 (dp_setJ M1 245 0 x.toInt64) := by
  rw [D_L_bars_0_den, D_L_bars_0_eq, h]
  rfl
theorem wL_bars_x0 {xs : Nat → Int32} {xl d : Nat} {a1 : Int32} {a2 : Int32} {M M1 : dp_M} (h : dp_den true xs xl d 289 [.ref 0, .int a1, .int a2] M = some (.inr 0, M1)) : dp_den true xs xl (d + 1) 614 [.ref 0, .int a1, .int a2, .ref 245] M = iR 1 M1 := by
  rw [D_L_bars_0_den, D_L_bars_0_eq, h]
  rfl
theorem wL_part_ok {xs : Nat → Int32} {xl d : Nat} {a1 : Int32} {a2 : Int32} {M M1 : dp_M} {x : Int32} (h : dp_den true xs xl d 290 [.ref 0, .int a1, .int a2] M = some (.inl (some (.int x)), M1)) : dp_den true xs xl (d + 1) 615 [.ref 0, .int a1, .int a2, .ref 245] M = iR 0 (dp_setJ M1 245 0 x.toInt64) := by
  rw [D_L_part_0_den, D_L_part_0_eq, h]
  rfl
theorem wL_part_x0 {xs : Nat → Int32} {xl d : Nat} {a1 : Int32} {a2 : Int32} {M M1 : dp_M} (h : dp_den true xs xl d 290 [.ref 0, .int a1, .int a2] M = some (.inr 0, M1)) : dp_den true xs xl (d + 1) 615 [.ref 0, .int a1, .int a2, .ref 245] M = iR 1 M1 := by
  rw [D_L_part_0_den, D_L_part_0_eq, h]
  rfl
theorem wL_withdraw_ok {xs : Nat → Int32} {xl d : Nat} {a1 : Int32} {M M1 : dp_M} {x : Int32} (h : dp_den true xs xl d 291 [.ref 0, .int a1] M = some (.inl (some (.int x)), M1)) : dp_den true xs xl (d + 1) 616 [.ref 0, .int a1, .ref 245] M = iR 0 (dp_setJ M1 245 0 x.toInt64) := by
  rw [D_L_withdraw_0_den, D_L_withdraw_0_eq, h]
  rfl
theorem wL_withdraw_x0 {xs : Nat → Int32} {xl d : Nat} {a1 : Int32} {M M1 : dp_M} (h : dp_den true xs xl d 291 [.ref 0, .int a1] M = some (.inr 0, M1)) : dp_den true xs xl (d + 1) 616 [.ref 0, .int a1, .ref 245] M = iR 1 M1 := by
  rw [D_L_withdraw_0_den, D_L_withdraw_0_eq, h]
  rfl
theorem wL_gate_ok {xs : Nat → Int32} {xl d : Nat} {a1 : Int32} {M M1 : dp_M} {x : Int32} (h : dp_den true xs xl d 292 [.ref 0, .int a1] M = some (.inl (some (.int x)), M1)) : dp_den true xs xl (d + 1) 617 [.ref 0, .int a1, .ref 245] M = iR 0 (dp_setJ M1 245 0 x.toInt64) := by
  rw [D_L_gate_0_den, D_L_gate_0_eq, h]
  rfl
theorem wL_gate_x0 {xs : Nat → Int32} {xl d : Nat} {a1 : Int32} {M M1 : dp_M} (h : dp_den true xs xl d 292 [.ref 0, .int a1] M = some (.inr 0, M1)) : dp_den true xs xl (d + 1) 617 [.ref 0, .int a1, .ref 245] M = iR 1 M1 := by
  rw [D_L_gate_0_den, D_L_gate_0_eq, h]
  rfl
theorem wL_look_ok {xs : Nat → Int32} {xl d : Nat} {a1 : Int32} {a2 : Int32} {M M1 : dp_M} {x : Int32} (h : dp_den true xs xl d 295 [.ref 0, .int a1, .int a2] M = some (.inl (some (.int x)), M1)) : dp_den true xs xl (d + 1) 618 [.ref 0, .int a1, .int a2, .ref 245] M = iR 0 (dp_setJ M1 245 0 x.toInt64) := by
  rw [D_L_look_0_den, D_L_look_0_eq, h]
  rfl
theorem wL_look_x2 {xs : Nat → Int32} {xl d : Nat} {a1 : Int32} {a2 : Int32} {M M1 : dp_M} (h : dp_den true xs xl d 295 [.ref 0, .int a1, .int a2] M = some (.inr 2, M1)) : dp_den true xs xl (d + 1) 618 [.ref 0, .int a1, .int a2, .ref 245] M = iR 1 M1 := by
  rw [D_L_look_0_den, D_L_look_0_eq, h]
  rfl
theorem wL_row_ok {xs : Nat → Int32} {xl d : Nat} {a1 : Int32} {a2 : Int32} {a3 : Int32} {a4 : Int32} {a5 : Int32} {a6 : Int32} {a7 : Int32} {M M1 : dp_M} {x : Int32} (h : dp_den true xs xl d 300 [.ref 0, .int a1, .int a2, .int a3, .int a4, .int a5, .int a6, .int a7] M = some (.inl (some (.int x)), M1)) : dp_den true xs xl (d + 1) 619 [.ref 0, .int a1, .int a2, .int a3, .int a4, .int a5, .int a6, .int a7, .ref 245] M = iR 0 (dp_setJ M1 245 0 x.toInt64) := by
  rw [D_L_row_0_den, D_L_row_0_eq, h]
  rfl
theorem wL_row_x0 {xs : Nat → Int32} {xl d : Nat} {a1 : Int32} {a2 : Int32} {a3 : Int32} {a4 : Int32} {a5 : Int32} {a6 : Int32} {a7 : Int32} {M M1 : dp_M} (h : dp_den true xs xl d 300 [.ref 0, .int a1, .int a2, .int a3, .int a4, .int a5, .int a6, .int a7] M = some (.inr 0, M1)) : dp_den true xs xl (d + 1) 619 [.ref 0, .int a1, .int a2, .int a3, .int a4, .int a5, .int a6, .int a7, .ref 245] M = iR 1 M1 := by
  rw [D_L_row_0_den, D_L_row_0_eq, h]
  rfl
theorem wL_row_x1 {xs : Nat → Int32} {xl d : Nat} {a1 : Int32} {a2 : Int32} {a3 : Int32} {a4 : Int32} {a5 : Int32} {a6 : Int32} {a7 : Int32} {M M1 : dp_M} (h : dp_den true xs xl d 300 [.ref 0, .int a1, .int a2, .int a3, .int a4, .int a5, .int a6, .int a7] M = some (.inr 1, M1)) : dp_den true xs xl (d + 1) 619 [.ref 0, .int a1, .int a2, .int a3, .int a4, .int a5, .int a6, .int a7, .ref 245] M = iR 2 M1 := by
  rw [D_L_row_0_den, D_L_row_0_eq, h]
  rfl
theorem wL_end_ok {xs : Nat → Int32} {xl d : Nat} {a1 : Int32} {a2 : Int32} {a3 : Int32} {M M1 : dp_M} {x : Int32} (h : dp_den true xs xl d 303 [.ref 0, .int a1, .int a2, .int a3] M = some (.inl (some (.int x)), M1)) : dp_den true xs xl (d + 1) 620 [.ref 0, .int a1, .int a2, .int a3, .ref 245] M = iR 0 (dp_setJ M1 245 0 x.toInt64) := by
  rw [D_L_end_0_den, D_L_end_0_eq, h]
  rfl
theorem wL_end_x0 {xs : Nat → Int32} {xl d : Nat} {a1 : Int32} {a2 : Int32} {a3 : Int32} {M M1 : dp_M} (h : dp_den true xs xl d 303 [.ref 0, .int a1, .int a2, .int a3] M = some (.inr 0, M1)) : dp_den true xs xl (d + 1) 620 [.ref 0, .int a1, .int a2, .int a3, .ref 245] M = iR 2 M1 := by
  rw [D_L_end_0_den, D_L_end_0_eq, h]
  rfl
theorem wL_end_x1 {xs : Nat → Int32} {xl d : Nat} {a1 : Int32} {a2 : Int32} {a3 : Int32} {M M1 : dp_M} (h : dp_den true xs xl d 303 [.ref 0, .int a1, .int a2, .int a3] M = some (.inr 1, M1)) : dp_den true xs xl (d + 1) 620 [.ref 0, .int a1, .int a2, .int a3, .ref 245] M = iR 3 M1 := by
  rw [D_L_end_0_den, D_L_end_0_eq, h]
  rfl
theorem wL_end_x2 {xs : Nat → Int32} {xl d : Nat} {a1 : Int32} {a2 : Int32} {a3 : Int32} {M M1 : dp_M} (h : dp_den true xs xl d 303 [.ref 0, .int a1, .int a2, .int a3] M = some (.inr 2, M1)) : dp_den true xs xl (d + 1) 620 [.ref 0, .int a1, .int a2, .int a3, .ref 245] M = iR 1 M1 := by
  rw [D_L_end_0_den, D_L_end_0_eq, h]
  rfl
theorem wL_apply_ok {xs : Nat → Int32} {xl d : Nat} {a1 : Int32} {a2 : Int32} {a3 : Int32} {a4 : Int32} {M M1 : dp_M} {x : Int32} (h : dp_den true xs xl d 305 [.ref 0, .int a1, .int a2, .int a3, .int a4] M = some (.inl (some (.int x)), M1)) : dp_den true xs xl (d + 1) 621 [.ref 0, .int a1, .int a2, .int a3, .int a4, .ref 245] M = iR 0 (dp_setJ M1 245 0 x.toInt64) := by
  rw [D_L_apply_0_den, D_L_apply_0_eq, h]
  rfl
theorem wL_apply_x0 {xs : Nat → Int32} {xl d : Nat} {a1 : Int32} {a2 : Int32} {a3 : Int32} {a4 : Int32} {M M1 : dp_M} (h : dp_den true xs xl d 305 [.ref 0, .int a1, .int a2, .int a3, .int a4] M = some (.inr 0, M1)) : dp_den true xs xl (d + 1) 621 [.ref 0, .int a1, .int a2, .int a3, .int a4, .ref 245] M = iR 1 M1 := by
  rw [D_L_apply_0_den, D_L_apply_0_eq, h]
  rfl
theorem wL_rate_ok {xs : Nat → Int32} {xl d : Nat} {a1 : Int32} {M M1 : dp_M} {x : Int32} (h : dp_den true xs xl d 308 [.ref 0, .int a1] M = some (.inl (some (.int x)), M1)) : dp_den true xs xl (d + 1) 622 [.ref 0, .int a1, .ref 245] M = iR 0 (dp_setJ M1 245 0 x.toInt64) := by
  rw [D_L_rate_0_den, D_L_rate_0_eq, h]
  rfl
theorem wL_rate_x0 {xs : Nat → Int32} {xl d : Nat} {a1 : Int32} {M M1 : dp_M} (h : dp_den true xs xl d 308 [.ref 0, .int a1] M = some (.inr 0, M1)) : dp_den true xs xl (d + 1) 622 [.ref 0, .int a1, .ref 245] M = iR 1 M1 := by
  rw [D_L_rate_0_den, D_L_rate_0_eq, h]
  rfl
theorem wL_node_ok {xs : Nat → Int32} {xl d : Nat} {a1 : Int32} {a2 : Int32} {a3 : Int32} {M M1 : dp_M} {x : Int32} (h : dp_den true xs xl d 310 [.ref 0, .int a1, .int a2, .int a3] M = some (.inl (some (.int x)), M1)) : dp_den true xs xl (d + 1) 623 [.ref 0, .int a1, .int a2, .int a3, .ref 245] M = iR 0 (dp_setJ M1 245 0 x.toInt64) := by
  rw [D_L_node_0_den, D_L_node_0_eq, h]
  rfl
theorem wL_node_x2 {xs : Nat → Int32} {xl d : Nat} {a1 : Int32} {a2 : Int32} {a3 : Int32} {M M1 : dp_M} (h : dp_den true xs xl d 310 [.ref 0, .int a1, .int a2, .int a3] M = some (.inr 2, M1)) : dp_den true xs xl (d + 1) 623 [.ref 0, .int a1, .int a2, .int a3, .ref 245] M = iR 1 M1 := by
  rw [D_L_node_0_den, D_L_node_0_eq, h]
  rfl
theorem wL_print_ok {xs : Nat → Int32} {xl d : Nat} {a1 : Int32} {M M1 : dp_M} {x : Int32} (h : dp_den true xs xl d 311 [.ref 0, .int a1] M = some (.inl (some (.int x)), M1)) : dp_den true xs xl (d + 1) 624 [.ref 0, .int a1, .ref 245] M = iR 0 (dp_setJ M1 245 0 x.toInt64) := by
  rw [D_L_print_0_den, D_L_print_0_eq, h]
  rfl
theorem wL_print_x0 {xs : Nat → Int32} {xl d : Nat} {a1 : Int32} {M M1 : dp_M} (h : dp_den true xs xl d 311 [.ref 0, .int a1] M = some (.inr 0, M1)) : dp_den true xs xl (d + 1) 624 [.ref 0, .int a1, .ref 245] M = iR 1 M1 := by
  rw [D_L_print_0_den, D_L_print_0_eq, h]
  rfl
theorem wL_printed_ok {xs : Nat → Int32} {xl d : Nat} {a1 : Int32} {M M1 : dp_M} {x : Int32} (h : dp_den true xs xl d 312 [.ref 0, .int a1] M = some (.inl (some (.int x)), M1)) : dp_den true xs xl (d + 1) 625 [.ref 0, .int a1, .ref 245] M = iR 0 (dp_setJ M1 245 0 x.toInt64) := by
  rw [D_L_printed_0_den, D_L_printed_0_eq, h]
  rfl
theorem wL_printed_x2 {xs : Nat → Int32} {xl d : Nat} {a1 : Int32} {M M1 : dp_M} (h : dp_den true xs xl d 312 [.ref 0, .int a1] M = some (.inr 2, M1)) : dp_den true xs xl (d + 1) 625 [.ref 0, .int a1, .ref 245] M = iR 1 M1 := by
  rw [D_L_printed_0_den, D_L_printed_0_eq, h]
  rfl
theorem wL_worth_ok {xs : Nat → Int32} {xl d : Nat} {a1 : Int32} {a2 : Int64} {a3 : Int32} {a4 : Int64} {M M1 : dp_M} {x : Int64} (h : dp_den true xs xl d 313 [.ref 0, .int a1, .long a2, .int a3, .long a4] M = some (.inl (some (.long x)), M1)) : dp_den true xs xl (d + 1) 626 [.ref 0, .int a1, .long a2, .int a3, .long a4, .ref 245] M = iR 0 (dp_setJ M1 245 0 x) := by
  rw [D_L_worth_0_den, D_L_worth_0_eq, h]
  rfl
theorem wL_worth_x0 {xs : Nat → Int32} {xl d : Nat} {a1 : Int32} {a2 : Int64} {a3 : Int32} {a4 : Int64} {M M1 : dp_M} (h : dp_den true xs xl d 313 [.ref 0, .int a1, .long a2, .int a3, .long a4] M = some (.inr 0, M1)) : dp_den true xs xl (d + 1) 626 [.ref 0, .int a1, .long a2, .int a3, .long a4, .ref 245] M = iR 1 M1 := by
  rw [D_L_worth_0_den, D_L_worth_0_eq, h]
  rfl
theorem wL_worth_x3 {xs : Nat → Int32} {xl d : Nat} {a1 : Int32} {a2 : Int64} {a3 : Int32} {a4 : Int64} {M M1 : dp_M} (h : dp_den true xs xl d 313 [.ref 0, .int a1, .long a2, .int a3, .long a4] M = some (.inr 3, M1)) : dp_den true xs xl (d + 1) 626 [.ref 0, .int a1, .long a2, .int a3, .long a4, .ref 245] M = iR 2 M1 := by
  rw [D_L_worth_0_den, D_L_worth_0_eq, h]
  rfl
theorem wL_order_ok {xs : Nat → Int32} {xl d : Nat} {a1 : Int64} {a2 : Int32} {a3 : Int32} {M M1 : dp_M} {x : Int32} (h : dp_den true xs xl d 314 [.ref 0, .long a1, .int a2, .int a3] M = some (.inl (some (.int x)), M1)) : dp_den true xs xl (d + 1) 627 [.ref 0, .long a1, .int a2, .int a3, .ref 245] M = iR 0 (dp_setJ M1 245 0 x.toInt64) := by
  rw [D_L_order_0_den, D_L_order_0_eq, h]
  rfl
theorem wL_order_x0 {xs : Nat → Int32} {xl d : Nat} {a1 : Int64} {a2 : Int32} {a3 : Int32} {M M1 : dp_M} (h : dp_den true xs xl d 314 [.ref 0, .long a1, .int a2, .int a3] M = some (.inr 0, M1)) : dp_den true xs xl (d + 1) 627 [.ref 0, .long a1, .int a2, .int a3, .ref 245] M = iR 1 M1 := by
  rw [D_L_order_0_den, D_L_order_0_eq, h]
  rfl
theorem wL_order_x1 {xs : Nat → Int32} {xl d : Nat} {a1 : Int64} {a2 : Int32} {a3 : Int32} {M M1 : dp_M} (h : dp_den true xs xl d 314 [.ref 0, .long a1, .int a2, .int a3] M = some (.inr 1, M1)) : dp_den true xs xl (d + 1) 627 [.ref 0, .long a1, .int a2, .int a3, .ref 245] M = iR 2 M1 := by
  rw [D_L_order_0_den, D_L_order_0_eq, h]
  rfl
theorem wL_run_ok {xs : Nat → Int32} {xl d : Nat} {a1 : Int32} {a2 : Int32} {M M1 : dp_M} {x : Int32} (h : dp_den true xs xl d 315 [.ref 0, .int a1, .int a2] M = some (.inl (some (.int x)), M1)) : dp_den true xs xl (d + 1) 628 [.ref 0, .int a1, .int a2, .ref 245] M = iR 0 (dp_setJ M1 245 0 x.toInt64) := by
  rw [D_L_run_0_den, D_L_run_0_eq, h]
  rfl
theorem wL_run_x0 {xs : Nat → Int32} {xl d : Nat} {a1 : Int32} {a2 : Int32} {M M1 : dp_M} (h : dp_den true xs xl d 315 [.ref 0, .int a1, .int a2] M = some (.inr 0, M1)) : dp_den true xs xl (d + 1) 628 [.ref 0, .int a1, .int a2, .ref 245] M = iR 2 M1 := by
  rw [D_L_run_0_den, D_L_run_0_eq, h]
  rfl
theorem wL_run_x2 {xs : Nat → Int32} {xl d : Nat} {a1 : Int32} {a2 : Int32} {M M1 : dp_M} (h : dp_den true xs xl d 315 [.ref 0, .int a1, .int a2] M = some (.inr 2, M1)) : dp_den true xs xl (d + 1) 628 [.ref 0, .int a1, .int a2, .ref 245] M = iR 1 M1 := by
  rw [D_L_run_0_den, D_L_run_0_eq, h]
  rfl
theorem wL_block_ok {xs : Nat → Int32} {xl d : Nat} {a1 : Int32} {a2 : Int32} {a3 : Int32} {M M1 : dp_M} {x : Int32} (h : dp_den true xs xl d 316 [.ref 0, .int a1, .int a2, .int a3] M = some (.inl (some (.int x)), M1)) : dp_den true xs xl (d + 1) 629 [.ref 0, .int a1, .int a2, .int a3, .ref 245] M = iR 0 (dp_setJ M1 245 0 (if x = 0 then 0 else 1)) := by
  rw [D_L_block_0_den, D_L_block_0_eq, h]
  show (if x = 0 then _ else _) = _
  split <;> rfl
theorem wL_block_x2 {xs : Nat → Int32} {xl d : Nat} {a1 : Int32} {a2 : Int32} {a3 : Int32} {M M1 : dp_M} (h : dp_den true xs xl d 316 [.ref 0, .int a1, .int a2, .int a3] M = some (.inr 2, M1)) : dp_den true xs xl (d + 1) 629 [.ref 0, .int a1, .int a2, .int a3, .ref 245] M = iR 1 M1 := by
  rw [D_L_block_0_den, D_L_block_0_eq, h]
  rfl
theorem wL_transfer_ok {xs : Nat → Int32} {xl d : Nat} {a1 : Int32} {a2 : Int32} {a3 : Int64} {M M1 : dp_M} {x : Int32} (h : dp_den true xs xl d 317 [.ref 0, .int a1, .int a2, .long a3] M = some (.inl (some (.int x)), M1)) : dp_den true xs xl (d + 1) 630 [.ref 0, .int a1, .int a2, .long a3, .ref 245] M = iR 0 (dp_setJ M1 245 0 (if x = 0 then 0 else 1)) := by
  rw [D_L_transfer_0_den, D_L_transfer_0_eq, h]
  show (if x = 0 then _ else _) = _
  split <;> rfl
theorem wL_transfer_x2 {xs : Nat → Int32} {xl d : Nat} {a1 : Int32} {a2 : Int32} {a3 : Int64} {M M1 : dp_M} (h : dp_den true xs xl d 317 [.ref 0, .int a1, .int a2, .long a3] M = some (.inr 2, M1)) : dp_den true xs xl (d + 1) 630 [.ref 0, .int a1, .int a2, .long a3, .ref 245] M = iR 1 M1 := by
  rw [D_L_transfer_0_den, D_L_transfer_0_eq, h]
  rfl
theorem wL_balance_ok {xs : Nat → Int32} {xl d : Nat} {a1 : Int32} {a2 : Int32} {M M1 : dp_M} {x : Int64} (h : dp_den true xs xl d 318 [.ref 0, .int a1, .int a2] M = some (.inl (some (.long x)), M1)) : dp_den true xs xl (d + 1) 631 [.ref 0, .int a1, .int a2, .ref 245] M = iR 0 (dp_setJ M1 245 0 x) := by
  rw [D_L_balance_0_den, D_L_balance_0_eq, h]
  rfl
theorem wL_balance_x0 {xs : Nat → Int32} {xl d : Nat} {a1 : Int32} {a2 : Int32} {M M1 : dp_M} (h : dp_den true xs xl d 318 [.ref 0, .int a1, .int a2] M = some (.inr 0, M1)) : dp_den true xs xl (d + 1) 631 [.ref 0, .int a1, .int a2, .ref 245] M = iR 2 M1 := by
  rw [D_L_balance_0_den, D_L_balance_0_eq, h]
  rfl
theorem wL_balance_x2 {xs : Nat → Int32} {xl d : Nat} {a1 : Int32} {a2 : Int32} {M M1 : dp_M} (h : dp_den true xs xl d 318 [.ref 0, .int a1, .int a2] M = some (.inr 2, M1)) : dp_den true xs xl (d + 1) 631 [.ref 0, .int a1, .int a2, .ref 245] M = iR 1 M1 := by
  rw [D_L_balance_0_den, D_L_balance_0_eq, h]
  rfl
theorem wL_quota_ok {xs : Nat → Int32} {xl d : Nat} {a1 : Int32} {a2 : Int32} {M M1 : dp_M} {x : Int64} (h : dp_den true xs xl d 319 [.ref 0, .int a1, .int a2] M = some (.inl (some (.long x)), M1)) : dp_den true xs xl (d + 1) 632 [.ref 0, .int a1, .int a2, .ref 245] M = iR 0 (dp_setJ M1 245 0 x) := by
  rw [D_L_quota_0_den, D_L_quota_0_eq, h]
  rfl
theorem wL_quota_x2 {xs : Nat → Int32} {xl d : Nat} {a1 : Int32} {a2 : Int32} {M M1 : dp_M} (h : dp_den true xs xl d 319 [.ref 0, .int a1, .int a2] M = some (.inr 2, M1)) : dp_den true xs xl (d + 1) 632 [.ref 0, .int a1, .int a2, .ref 245] M = iR 1 M1 := by
  rw [D_L_quota_0_den, D_L_quota_0_eq, h]
  rfl
theorem wL_guarantee_ok {xs : Nat → Int32} {xl d : Nat} {a1 : Int32} {a2 : Int64} {a3 : Int32} {a4 : Int32} {a5 : Int32} {a6 : Int32} {M M1 : dp_M} {x : Int32} (h : dp_den true xs xl d 320 [.ref 0, .int a1, .long a2, .int a3, .int a4, .int a5, .int a6] M = some (.inl (some (.int x)), M1)) : dp_den true xs xl (d + 1) 633 [.ref 0, .int a1, .long a2, .int a3, .int a4, .int a5, .int a6, .ref 245] M = iR 0 (dp_setJ M1 245 0 x.toInt64) := by
  rw [D_L_guarantee_0_den, D_L_guarantee_0_eq, h]
  rfl
theorem wL_guarantee_x0 {xs : Nat → Int32} {xl d : Nat} {a1 : Int32} {a2 : Int64} {a3 : Int32} {a4 : Int32} {a5 : Int32} {a6 : Int32} {M M1 : dp_M} (h : dp_den true xs xl d 320 [.ref 0, .int a1, .long a2, .int a3, .int a4, .int a5, .int a6] M = some (.inr 0, M1)) : dp_den true xs xl (d + 1) 633 [.ref 0, .int a1, .long a2, .int a3, .int a4, .int a5, .int a6, .ref 245] M = iR 1 M1 := by
  rw [D_L_guarantee_0_den, D_L_guarantee_0_eq, h]
  rfl
theorem wL_guarantee_x1 {xs : Nat → Int32} {xl d : Nat} {a1 : Int32} {a2 : Int64} {a3 : Int32} {a4 : Int32} {a5 : Int32} {a6 : Int32} {M M1 : dp_M} (h : dp_den true xs xl d 320 [.ref 0, .int a1, .long a2, .int a3, .int a4, .int a5, .int a6] M = some (.inr 1, M1)) : dp_den true xs xl (d + 1) 633 [.ref 0, .int a1, .long a2, .int a3, .int a4, .int a5, .int a6, .ref 245] M = iR 2 M1 := by
  rw [D_L_guarantee_0_den, D_L_guarantee_0_eq, h]
  rfl
theorem wL_interest_ok {xs : Nat → Int32} {xl d : Nat} {a1 : Int32} {M M1 : dp_M} {x : Int64} (h : dp_den true xs xl d 327 [.ref 0, .int a1] M = some (.inl (some (.long x)), M1)) : dp_den true xs xl (d + 1) 634 [.ref 0, .int a1, .ref 245] M = iR 0 (dp_setJ M1 245 0 x) := by
  rw [D_L_interest_0_den, D_L_interest_0_eq, h]
  rfl
theorem wL_interest_x0 {xs : Nat → Int32} {xl d : Nat} {a1 : Int32} {M M1 : dp_M} (h : dp_den true xs xl d 327 [.ref 0, .int a1] M = some (.inr 0, M1)) : dp_den true xs xl (d + 1) 634 [.ref 0, .int a1, .ref 245] M = iR 1 M1 := by
  rw [D_L_interest_0_den, D_L_interest_0_eq, h]
  rfl
theorem wL_security_ok {xs : Nat → Int32} {xl d : Nat} {a1 : Int32} {a2 : Int32} {M M1 : dp_M} {x : Int64} (h : dp_den true xs xl d 330 [.ref 0, .int a1, .int a2] M = some (.inl (some (.long x)), M1)) : dp_den true xs xl (d + 1) 635 [.ref 0, .int a1, .int a2, .ref 245] M = iR 0 (dp_setJ M1 245 0 x) := by
  rw [D_L_security_0_den, D_L_security_0_eq, h]
  rfl
theorem wL_security_x2 {xs : Nat → Int32} {xl d : Nat} {a1 : Int32} {a2 : Int32} {M M1 : dp_M} (h : dp_den true xs xl d 330 [.ref 0, .int a1, .int a2] M = some (.inr 2, M1)) : dp_den true xs xl (d + 1) 635 [.ref 0, .int a1, .int a2, .ref 245] M = iR 1 M1 := by
  rw [D_L_security_0_den, D_L_security_0_eq, h]
  rfl
theorem wL_reservation_ok {xs : Nat → Int32} {xl d : Nat} {a1 : Int32} {a2 : Int32} {M M1 : dp_M} {x : Int64} (h : dp_den true xs xl d 331 [.ref 0, .int a1, .int a2] M = some (.inl (some (.long x)), M1)) : dp_den true xs xl (d + 1) 636 [.ref 0, .int a1, .int a2, .ref 245] M = iR 0 (dp_setJ M1 245 0 x) := by
  rw [D_L_reservation_0_den, D_L_reservation_0_eq, h]
  rfl
theorem wL_reservation_x2 {xs : Nat → Int32} {xl d : Nat} {a1 : Int32} {a2 : Int32} {M M1 : dp_M} (h : dp_den true xs xl d 331 [.ref 0, .int a1, .int a2] M = some (.inr 2, M1)) : dp_den true xs xl (d + 1) 636 [.ref 0, .int a1, .int a2, .ref 245] M = iR 1 M1 := by
  rw [D_L_reservation_0_den, D_L_reservation_0_eq, h]
  rfl
theorem wL_batch_ok {xs : Nat → Int32} {xl d : Nat} {a1 : Int32} {a2 : Int32} {M M1 : dp_M} {x : Int32} (h : dp_den true xs xl d 332 [.ref 0, .int a1, .int a2] M = some (.inl (some (.int x)), M1)) : dp_den true xs xl (d + 1) 637 [.ref 0, .int a1, .int a2, .ref 245] M = iR 0 (dp_setJ M1 245 0 x.toInt64) := by
  rw [D_L_batch_0_den, D_L_batch_0_eq, h]
  rfl
theorem wL_batch_x0 {xs : Nat → Int32} {xl d : Nat} {a1 : Int32} {a2 : Int32} {M M1 : dp_M} (h : dp_den true xs xl d 332 [.ref 0, .int a1, .int a2] M = some (.inr 0, M1)) : dp_den true xs xl (d + 1) 637 [.ref 0, .int a1, .int a2, .ref 245] M = iR 1 M1 := by
  rw [D_L_batch_0_den, D_L_batch_0_eq, h]
  rfl
theorem wL_batch_x1 {xs : Nat → Int32} {xl d : Nat} {a1 : Int32} {a2 : Int32} {M M1 : dp_M} (h : dp_den true xs xl d 332 [.ref 0, .int a1, .int a2] M = some (.inr 1, M1)) : dp_den true xs xl (d + 1) 637 [.ref 0, .int a1, .int a2, .ref 245] M = iR 2 M1 := by
  rw [D_L_batch_0_den, D_L_batch_0_eq, h]
  rfl
theorem wL_post_ok {xs : Nat → Int32} {xl d : Nat} {a1 : Int32} {M M1 : dp_M} {x : Int32} (h : dp_den true xs xl d 337 [.ref 0, .int a1] M = some (.inl (some (.int x)), M1)) : dp_den true xs xl (d + 1) 638 [.ref 0, .int a1, .ref 245] M = iR 0 (dp_setJ M1 245 0 x.toInt64) := by
  rw [D_L_post_0_den, D_L_post_0_eq, h]
  rfl
theorem wL_post_x0 {xs : Nat → Int32} {xl d : Nat} {a1 : Int32} {M M1 : dp_M} (h : dp_den true xs xl d 337 [.ref 0, .int a1] M = some (.inr 0, M1)) : dp_den true xs xl (d + 1) 638 [.ref 0, .int a1, .ref 245] M = iR 1 M1 := by
  rw [D_L_post_0_den, D_L_post_0_eq, h]
  rfl
theorem wL_post_x1 {xs : Nat → Int32} {xl d : Nat} {a1 : Int32} {M M1 : dp_M} (h : dp_den true xs xl d 337 [.ref 0, .int a1] M = some (.inr 1, M1)) : dp_den true xs xl (d + 1) 638 [.ref 0, .int a1, .ref 245] M = iR 2 M1 := by
  rw [D_L_post_0_den, D_L_post_0_eq, h]
  rfl
theorem wL_post_x3 {xs : Nat → Int32} {xl d : Nat} {a1 : Int32} {M M1 : dp_M} (h : dp_den true xs xl d 337 [.ref 0, .int a1] M = some (.inr 3, M1)) : dp_den true xs xl (d + 1) 638 [.ref 0, .int a1, .ref 245] M = iR 3 M1 := by
  rw [D_L_post_0_den, D_L_post_0_eq, h]
  rfl
theorem wL_reverse_ok {xs : Nat → Int32} {xl d : Nat} {a1 : Int32} {a2 : Int32} {M M1 : dp_M} {x : Int32} (h : dp_den true xs xl d 338 [.ref 0, .int a1, .int a2] M = some (.inl (some (.int x)), M1)) : dp_den true xs xl (d + 1) 639 [.ref 0, .int a1, .int a2, .ref 245] M = iR 0 (dp_setJ M1 245 0 x.toInt64) := by
  rw [D_L_reverse_0_den, D_L_reverse_0_eq, h]
  rfl
theorem wL_reverse_x0 {xs : Nat → Int32} {xl d : Nat} {a1 : Int32} {a2 : Int32} {M M1 : dp_M} (h : dp_den true xs xl d 338 [.ref 0, .int a1, .int a2] M = some (.inr 0, M1)) : dp_den true xs xl (d + 1) 639 [.ref 0, .int a1, .int a2, .ref 245] M = iR 1 M1 := by
  rw [D_L_reverse_0_den, D_L_reverse_0_eq, h]
  rfl
theorem wL_reverse_x1 {xs : Nat → Int32} {xl d : Nat} {a1 : Int32} {a2 : Int32} {M M1 : dp_M} (h : dp_den true xs xl d 338 [.ref 0, .int a1, .int a2] M = some (.inr 1, M1)) : dp_den true xs xl (d + 1) 639 [.ref 0, .int a1, .int a2, .ref 245] M = iR 2 M1 := by
  rw [D_L_reverse_0_den, D_L_reverse_0_eq, h]
  rfl
theorem wL_account_ok {xs : Nat → Int32} {xl d : Nat} {a1 : Int32} {a2 : Int32} {a3 : Int32} {M M1 : dp_M} {x : Int64} (h : dp_den true xs xl d 340 [.ref 0, .int a1, .int a2, .int a3] M = some (.inl (some (.long x)), M1)) : dp_den true xs xl (d + 1) 640 [.ref 0, .int a1, .int a2, .int a3, .ref 245] M = iR 0 (dp_setJ M1 245 0 x) := by
  rw [D_L_account_0_den, D_L_account_0_eq, h]
  rfl
theorem wL_account_x0 {xs : Nat → Int32} {xl d : Nat} {a1 : Int32} {a2 : Int32} {a3 : Int32} {M M1 : dp_M} (h : dp_den true xs xl d 340 [.ref 0, .int a1, .int a2, .int a3] M = some (.inr 0, M1)) : dp_den true xs xl (d + 1) 640 [.ref 0, .int a1, .int a2, .int a3, .ref 245] M = iR 1 M1 := by
  rw [D_L_account_0_den, D_L_account_0_eq, h]
  rfl
theorem wL_statement_ok {xs : Nat → Int32} {xl d : Nat} {a1 : Int32} {a2 : Int32} {a3 : Int32} {M M1 : dp_M} {x : Int64} (h : dp_den true xs xl d 341 [.ref 0, .int a1, .int a2, .int a3] M = some (.inl (some (.long x)), M1)) : dp_den true xs xl (d + 1) 641 [.ref 0, .int a1, .int a2, .int a3, .ref 245] M = iR 0 (dp_setJ M1 245 0 x) := by
  rw [D_L_statement_0_den, D_L_statement_0_eq, h]
  rfl
theorem wL_statement_x0 {xs : Nat → Int32} {xl d : Nat} {a1 : Int32} {a2 : Int32} {a3 : Int32} {M M1 : dp_M} (h : dp_den true xs xl d 341 [.ref 0, .int a1, .int a2, .int a3] M = some (.inr 0, M1)) : dp_den true xs xl (d + 1) 641 [.ref 0, .int a1, .int a2, .int a3, .ref 245] M = iR 1 M1 := by
  rw [D_L_statement_0_den, D_L_statement_0_eq, h]
  rfl
theorem wL_passed_ok {xs : Nat → Int32} {xl d : Nat} {a1 : Int32} {a2 : Int32} {a3 : Int32} {M M1 : dp_M} {x : Int64} (h : dp_den true xs xl d 345 [.ref 0, .int a1, .int a2, .int a3] M = some (.inl (some (.long x)), M1)) : dp_den true xs xl (d + 1) 642 [.ref 0, .int a1, .int a2, .int a3, .ref 245] M = iR 0 (dp_setJ M1 245 0 x) := by
  rw [D_L_passed_0_den, D_L_passed_0_eq, h]
  rfl
theorem wL_passed_x0 {xs : Nat → Int32} {xl d : Nat} {a1 : Int32} {a2 : Int32} {a3 : Int32} {M M1 : dp_M} (h : dp_den true xs xl d 345 [.ref 0, .int a1, .int a2, .int a3] M = some (.inr 0, M1)) : dp_den true xs xl (d + 1) 642 [.ref 0, .int a1, .int a2, .int a3, .ref 245] M = iR 1 M1 := by
  rw [D_L_passed_0_den, D_L_passed_0_eq, h]
  rfl
theorem wL_read_ok {xs : Nat → Int32} {xl d : Nat} {a1 : Int32} {a2 : Int32} {M M1 : dp_M} {x : Int64} (h : dp_den true xs xl d 346 [.ref 0, .int a1, .int a2] M = some (.inl (some (.long x)), M1)) : dp_den true xs xl (d + 1) 643 [.ref 0, .int a1, .int a2, .ref 245] M = iR 0 (dp_setJ M1 245 0 x) := by
  rw [D_L_read_0_den, D_L_read_0_eq, h]
  rfl
theorem wL_read_x2 {xs : Nat → Int32} {xl d : Nat} {a1 : Int32} {a2 : Int32} {M M1 : dp_M} (h : dp_den true xs xl d 346 [.ref 0, .int a1, .int a2] M = some (.inr 2, M1)) : dp_den true xs xl (d + 1) 643 [.ref 0, .int a1, .int a2, .ref 245] M = iR 1 M1 := by
  rw [D_L_read_0_den, D_L_read_0_eq, h]
  rfl
theorem wL_batchOf_ok {xs : Nat → Int32} {xl d : Nat} {a1 : Int32} {a2 : Int32} {M M1 : dp_M} {x : Int32} (h : dp_den true xs xl d 347 [.ref 0, .int a1, .int a2] M = some (.inl (some (.int x)), M1)) : dp_den true xs xl (d + 1) 644 [.ref 0, .int a1, .int a2, .ref 245] M = iR 0 (dp_setJ M1 245 0 x.toInt64) := by
  rw [D_L_batchOf_0_den, D_L_batchOf_0_eq, h]
  rfl
theorem wL_batchOf_x2 {xs : Nat → Int32} {xl d : Nat} {a1 : Int32} {a2 : Int32} {M M1 : dp_M} (h : dp_den true xs xl d 347 [.ref 0, .int a1, .int a2] M = some (.inr 2, M1)) : dp_den true xs xl (d + 1) 644 [.ref 0, .int a1, .int a2, .ref 245] M = iR 1 M1 := by
  rw [D_L_batchOf_0_den, D_L_batchOf_0_eq, h]
  rfl
theorem wL_declare_ok {xs : Nat → Int32} {xl d : Nat} {a1 : Int32} {a2 : Int32} {a3 : Int32} {a4 : Int32} {a5 : Int32} {a6 : Int32} {a7 : Int64} {M M1 : dp_M} {x : Int32} (h : dp_den true xs xl d 348 [.ref 0, .int a1, .int a2, .int a3, .int a4, .int a5, .int a6, .long a7] M = some (.inl (some (.int x)), M1)) : dp_den true xs xl (d + 1) 645 [.ref 0, .int a1, .int a2, .int a3, .int a4, .int a5, .int a6, .long a7, .ref 245] M = iR 0 (dp_setJ M1 245 0 x.toInt64) := by
  rw [D_L_declare_0_den, D_L_declare_0_eq, h]
  rfl
theorem wL_declare_x0 {xs : Nat → Int32} {xl d : Nat} {a1 : Int32} {a2 : Int32} {a3 : Int32} {a4 : Int32} {a5 : Int32} {a6 : Int32} {a7 : Int64} {M M1 : dp_M} (h : dp_den true xs xl d 348 [.ref 0, .int a1, .int a2, .int a3, .int a4, .int a5, .int a6, .long a7] M = some (.inr 0, M1)) : dp_den true xs xl (d + 1) 645 [.ref 0, .int a1, .int a2, .int a3, .int a4, .int a5, .int a6, .long a7, .ref 245] M = iR 1 M1 := by
  rw [D_L_declare_0_den, D_L_declare_0_eq, h]
  rfl
theorem wL_declare_x1 {xs : Nat → Int32} {xl d : Nat} {a1 : Int32} {a2 : Int32} {a3 : Int32} {a4 : Int32} {a5 : Int32} {a6 : Int32} {a7 : Int64} {M M1 : dp_M} (h : dp_den true xs xl d 348 [.ref 0, .int a1, .int a2, .int a3, .int a4, .int a5, .int a6, .long a7] M = some (.inr 1, M1)) : dp_den true xs xl (d + 1) 645 [.ref 0, .int a1, .int a2, .int a3, .int a4, .int a5, .int a6, .long a7, .ref 245] M = iR 2 M1 := by
  rw [D_L_declare_0_den, D_L_declare_0_eq, h]
  rfl
theorem wL_ask_ok {xs : Nat → Int32} {xl d : Nat} {a1 : Int32} {a2 : Int32} {a3 : Int64} {M M1 : dp_M} {x : Int32} (h : dp_den true xs xl d 350 [.ref 0, .int a1, .int a2, .long a3] M = some (.inl (some (.int x)), M1)) : dp_den true xs xl (d + 1) 646 [.ref 0, .int a1, .int a2, .long a3, .ref 245] M = iR 0 (dp_setJ M1 245 0 x.toInt64) := by
  rw [D_L_ask_0_den, D_L_ask_0_eq, h]
  rfl
theorem wL_ask_x0 {xs : Nat → Int32} {xl d : Nat} {a1 : Int32} {a2 : Int32} {a3 : Int64} {M M1 : dp_M} (h : dp_den true xs xl d 350 [.ref 0, .int a1, .int a2, .long a3] M = some (.inr 0, M1)) : dp_den true xs xl (d + 1) 646 [.ref 0, .int a1, .int a2, .long a3, .ref 245] M = iR 1 M1 := by
  rw [D_L_ask_0_den, D_L_ask_0_eq, h]
  rfl
theorem wL_ask_x1 {xs : Nat → Int32} {xl d : Nat} {a1 : Int32} {a2 : Int32} {a3 : Int64} {M M1 : dp_M} (h : dp_den true xs xl d 350 [.ref 0, .int a1, .int a2, .long a3] M = some (.inr 1, M1)) : dp_den true xs xl (d + 1) 646 [.ref 0, .int a1, .int a2, .long a3, .ref 245] M = iR 3 M1 := by
  rw [D_L_ask_0_den, D_L_ask_0_eq, h]
  rfl
theorem wL_ask_x2 {xs : Nat → Int32} {xl d : Nat} {a1 : Int32} {a2 : Int32} {a3 : Int64} {M M1 : dp_M} (h : dp_den true xs xl d 350 [.ref 0, .int a1, .int a2, .long a3] M = some (.inr 2, M1)) : dp_den true xs xl (d + 1) 646 [.ref 0, .int a1, .int a2, .long a3, .ref 245] M = iR 2 M1 := by
  rw [D_L_ask_0_den, D_L_ask_0_eq, h]
  rfl
theorem wL_again_ok {xs : Nat → Int32} {xl d : Nat} {a1 : Int32} {a2 : Int64} {M M1 : dp_M} {x : Int32} (h : dp_den true xs xl d 351 [.ref 0, .int a1, .long a2] M = some (.inl (some (.int x)), M1)) : dp_den true xs xl (d + 1) 647 [.ref 0, .int a1, .long a2, .ref 245] M = iR 0 (dp_setJ M1 245 0 x.toInt64) := by
  rw [D_L_again_0_den, D_L_again_0_eq, h]
  rfl
theorem wL_again_x0 {xs : Nat → Int32} {xl d : Nat} {a1 : Int32} {a2 : Int64} {M M1 : dp_M} (h : dp_den true xs xl d 351 [.ref 0, .int a1, .long a2] M = some (.inr 0, M1)) : dp_den true xs xl (d + 1) 647 [.ref 0, .int a1, .long a2, .ref 245] M = iR 1 M1 := by
  rw [D_L_again_0_den, D_L_again_0_eq, h]
  rfl
theorem wL_duty_ok {xs : Nat → Int32} {xl d : Nat} {a1 : Int32} {a2 : Int32} {M M1 : dp_M} {x : Int64} (h : dp_den true xs xl d 352 [.ref 0, .int a1, .int a2] M = some (.inl (some (.long x)), M1)) : dp_den true xs xl (d + 1) 648 [.ref 0, .int a1, .int a2, .ref 245] M = iR 0 (dp_setJ M1 245 0 x) := by
  rw [D_L_duty_0_den, D_L_duty_0_eq, h]
  rfl
theorem wL_duty_x0 {xs : Nat → Int32} {xl d : Nat} {a1 : Int32} {a2 : Int32} {M M1 : dp_M} (h : dp_den true xs xl d 352 [.ref 0, .int a1, .int a2] M = some (.inr 0, M1)) : dp_den true xs xl (d + 1) 648 [.ref 0, .int a1, .int a2, .ref 245] M = iR 1 M1 := by
  rw [D_L_duty_0_den, D_L_duty_0_eq, h]
  rfl
theorem wL_duty_x3 {xs : Nat → Int32} {xl d : Nat} {a1 : Int32} {a2 : Int32} {M M1 : dp_M} (h : dp_den true xs xl d 352 [.ref 0, .int a1, .int a2] M = some (.inr 3, M1)) : dp_den true xs xl (d + 1) 648 [.ref 0, .int a1, .int a2, .ref 245] M = iR 2 M1 := by
  rw [D_L_duty_0_den, D_L_duty_0_eq, h]
  rfl
theorem wL_assess_ok {xs : Nat → Int32} {xl d : Nat} {a1 : Int32} {a2 : Int32} {M M1 : dp_M} {x : Int64} (h : dp_den true xs xl d 353 [.ref 0, .int a1, .int a2] M = some (.inl (some (.long x)), M1)) : dp_den true xs xl (d + 1) 649 [.ref 0, .int a1, .int a2, .ref 245] M = iR 0 (dp_setJ M1 245 0 x) := by
  rw [D_L_assess_0_den, D_L_assess_0_eq, h]
  rfl
theorem wL_assess_x0 {xs : Nat → Int32} {xl d : Nat} {a1 : Int32} {a2 : Int32} {M M1 : dp_M} (h : dp_den true xs xl d 353 [.ref 0, .int a1, .int a2] M = some (.inr 0, M1)) : dp_den true xs xl (d + 1) 649 [.ref 0, .int a1, .int a2, .ref 245] M = iR 1 M1 := by
  rw [D_L_assess_0_den, D_L_assess_0_eq, h]
  rfl
theorem wL_assess_x3 {xs : Nat → Int32} {xl d : Nat} {a1 : Int32} {a2 : Int32} {M M1 : dp_M} (h : dp_den true xs xl d 353 [.ref 0, .int a1, .int a2] M = some (.inr 3, M1)) : dp_den true xs xl (d + 1) 649 [.ref 0, .int a1, .int a2, .ref 245] M = iR 2 M1 := by
  rw [D_L_assess_0_den, D_L_assess_0_eq, h]
  rfl
theorem wL_pay_ok {xs : Nat → Int32} {xl d : Nat} {a1 : Int32} {a2 : Int32} {M M1 : dp_M} {x : Int32} (h : dp_den true xs xl d 354 [.ref 0, .int a1, .int a2] M = some (.inl (some (.int x)), M1)) : dp_den true xs xl (d + 1) 650 [.ref 0, .int a1, .int a2, .ref 245] M = iR 0 (dp_setJ M1 245 0 x.toInt64) := by
  rw [D_L_pay_0_den, D_L_pay_0_eq, h]
  rfl
theorem wL_pay_x0 {xs : Nat → Int32} {xl d : Nat} {a1 : Int32} {a2 : Int32} {M M1 : dp_M} (h : dp_den true xs xl d 354 [.ref 0, .int a1, .int a2] M = some (.inr 0, M1)) : dp_den true xs xl (d + 1) 650 [.ref 0, .int a1, .int a2, .ref 245] M = iR 1 M1 := by
  rw [D_L_pay_0_den, D_L_pay_0_eq, h]
  rfl
theorem wL_pay_x1 {xs : Nat → Int32} {xl d : Nat} {a1 : Int32} {a2 : Int32} {M M1 : dp_M} (h : dp_den true xs xl d 354 [.ref 0, .int a1, .int a2] M = some (.inr 1, M1)) : dp_den true xs xl (d + 1) 650 [.ref 0, .int a1, .int a2, .ref 245] M = iR 2 M1 := by
  rw [D_L_pay_0_den, D_L_pay_0_eq, h]
  rfl
theorem wL_claim_ok {xs : Nat → Int32} {xl d : Nat} {a1 : Int32} {a2 : Int32} {M M1 : dp_M} {x : Int64} (h : dp_den true xs xl d 355 [.ref 0, .int a1, .int a2] M = some (.inl (some (.long x)), M1)) : dp_den true xs xl (d + 1) 651 [.ref 0, .int a1, .int a2, .ref 245] M = iR 0 (dp_setJ M1 245 0 x) := by
  rw [D_L_claim_0_den, D_L_claim_0_eq, h]
  rfl
theorem wL_claim_x0 {xs : Nat → Int32} {xl d : Nat} {a1 : Int32} {a2 : Int32} {M M1 : dp_M} (h : dp_den true xs xl d 355 [.ref 0, .int a1, .int a2] M = some (.inr 0, M1)) : dp_den true xs xl (d + 1) 651 [.ref 0, .int a1, .int a2, .ref 245] M = iR 1 M1 := by
  rw [D_L_claim_0_den, D_L_claim_0_eq, h]
  rfl
theorem wL_claim_x1 {xs : Nat → Int32} {xl d : Nat} {a1 : Int32} {a2 : Int32} {M M1 : dp_M} (h : dp_den true xs xl d 355 [.ref 0, .int a1, .int a2] M = some (.inr 1, M1)) : dp_den true xs xl (d + 1) 651 [.ref 0, .int a1, .int a2, .ref 245] M = iR 2 M1 := by
  rw [D_L_claim_0_den, D_L_claim_0_eq, h]
  rfl
theorem wL_correct_ok {xs : Nat → Int32} {xl d : Nat} {a1 : Int32} {a2 : Int32} {M M1 : dp_M} {x : Int64} (h : dp_den true xs xl d 356 [.ref 0, .int a1, .int a2] M = some (.inl (some (.long x)), M1)) : dp_den true xs xl (d + 1) 652 [.ref 0, .int a1, .int a2, .ref 245] M = iR 0 (dp_setJ M1 245 0 x) := by
  rw [D_L_correct_0_den, D_L_correct_0_eq, h]
  rfl
theorem wL_correct_x0 {xs : Nat → Int32} {xl d : Nat} {a1 : Int32} {a2 : Int32} {M M1 : dp_M} (h : dp_den true xs xl d 356 [.ref 0, .int a1, .int a2] M = some (.inr 0, M1)) : dp_den true xs xl (d + 1) 652 [.ref 0, .int a1, .int a2, .ref 245] M = iR 1 M1 := by
  rw [D_L_correct_0_den, D_L_correct_0_eq, h]
  rfl
theorem wL_correct_x1 {xs : Nat → Int32} {xl d : Nat} {a1 : Int32} {a2 : Int32} {M M1 : dp_M} (h : dp_den true xs xl d 356 [.ref 0, .int a1, .int a2] M = some (.inr 1, M1)) : dp_den true xs xl (d + 1) 652 [.ref 0, .int a1, .int a2, .ref 245] M = iR 3 M1 := by
  rw [D_L_correct_0_den, D_L_correct_0_eq, h]
  rfl
theorem wL_correct_x3 {xs : Nat → Int32} {xl d : Nat} {a1 : Int32} {a2 : Int32} {M M1 : dp_M} (h : dp_den true xs xl d 356 [.ref 0, .int a1, .int a2] M = some (.inr 3, M1)) : dp_den true xs xl (d + 1) 652 [.ref 0, .int a1, .int a2, .ref 245] M = iR 2 M1 := by
  rw [D_L_correct_0_den, D_L_correct_0_eq, h]
  rfl
theorem wL_cancel_ok {xs : Nat → Int32} {xl d : Nat} {a1 : Int32} {M M1 : dp_M} {x : Int32} (h : dp_den true xs xl d 357 [.ref 0, .int a1] M = some (.inl (some (.int x)), M1)) : dp_den true xs xl (d + 1) 653 [.ref 0, .int a1, .ref 245] M = iR 0 (dp_setJ M1 245 0 x.toInt64) := by
  rw [D_L_cancel_0_den, D_L_cancel_0_eq, h]
  rfl
theorem wL_cancel_x0 {xs : Nat → Int32} {xl d : Nat} {a1 : Int32} {M M1 : dp_M} (h : dp_den true xs xl d 357 [.ref 0, .int a1] M = some (.inr 0, M1)) : dp_den true xs xl (d + 1) 653 [.ref 0, .int a1, .ref 245] M = iR 1 M1 := by
  rw [D_L_cancel_0_den, D_L_cancel_0_eq, h]
  rfl
theorem wL_declared_ok {xs : Nat → Int32} {xl d : Nat} {a1 : Int32} {a2 : Int32} {M M1 : dp_M} {x : Int64} (h : dp_den true xs xl d 358 [.ref 0, .int a1, .int a2] M = some (.inl (some (.long x)), M1)) : dp_den true xs xl (d + 1) 654 [.ref 0, .int a1, .int a2, .ref 245] M = iR 0 (dp_setJ M1 245 0 x) := by
  rw [D_L_declared_0_den, D_L_declared_0_eq, h]
  rfl
theorem wL_declared_x2 {xs : Nat → Int32} {xl d : Nat} {a1 : Int32} {a2 : Int32} {M M1 : dp_M} (h : dp_den true xs xl d 358 [.ref 0, .int a1, .int a2] M = some (.inr 2, M1)) : dp_den true xs xl (d + 1) 654 [.ref 0, .int a1, .int a2, .ref 245] M = iR 1 M1 := by
  rw [D_L_declared_0_den, D_L_declared_0_eq, h]
  rfl
