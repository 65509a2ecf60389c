def rowW (G : Gm) (h n : Nat) : List va_E := [.inr (3, [.ref (G.1 + (h + 1)), .int 0]), .inl (G.2.2.1.1, n, .inl (fun _ => 0))]
def lawW (G : Gm) (h : Nat) (x : Int32) : List va_E := .inr (0, [.int x, .ref (G.1 + (h + 1)), .ref (G.1 + (h + 3))]) :: (rowW G (h + 1) 50 ++ rowW G (h + 3) 50)
def rdrW (G : Gm) (h : Nat) : List va_E := .inr (2, [.ref (G.1 + (h + 1)), .ref (G.1 + (h + 3)), .int 0, .int 0]) :: (rowW G (h + 1) 50 ++ rowW G (h + 3) 50)
def vcsW (G : Gm) (h : Nat) : List va_E := .inr (7, [.ref (G.1 + (h + 1)), .int 0, .int 0, .int 0]) :: rowW G (h + 1) 40
def shtW (G : Gm) (h : Nat) : List va_E := .inr (6, [.ref (G.1 + (h + 1)), .int 0]) :: rowW G (h + 1) 40
set_option maxHeartbeats 4000000 in
set_option maxRecDepth 100000 in
theorem cn_X3 (l : Launch) (G : Gm) (pre : List va_E) (h : Nat) (hh : pre.length = h) (x : Int32) (N : Nat) (hN : imx 0 x = x ∧ ¬ x < 0 ∧ x.toNatClampNeg = N ∧ N * 4 ≤ 536870912) : Cn l G yX3_init cX3_init 2 ({ frames := 1, cells := 1, slots := N, locals := 64 } : Room) [.ref (G.1 + h), .int x] (pre ++ [.inr (3, [.null, .int 0])]) (pre ++ rowW G h N) 1 N := by
  refine cn_of (by decide) rfl (Nat.le_of_ble_eq_true rfl) ?_
  intro p e s m below meth c E_ ls H hl hP hS
  obtain ⟨hx, hb, hml, hown, hts, ht, hr, hlocks, hSt, hin⟩ := id E_
  have hl : lv_has ls 2 [(0, .ref (G.1 + h)), (1, .int x)] := hl
  refine lv_aload_n hx hb dX3_init_0 rfl (lv_at hl 0 rfl) ?_
  refine W.objInit hx hb hown (ht _ wm_RX3_1) (ht _ wi_objectInit) (ht _ wc_objectInit) rfl (by rw [hml]; exact hl.1) rfl dX3_init_1 (Nat.le_of_ble_eq_true rfl) (Nat.le_of_ble_eq_true rfl) ?_
  refine W.eq (g2 := F0 m 4 ls []) rfl ?_
  refine lv_aload_n hx hb dX3_init_4 rfl (lv_at hl 0 rfl) ?_
  refine lv_iconst (v := 0) hx hb dX3_init_5 (by decide) ?_
  refine lv_iload_n hx hb dX3_init_6 rfl (lv_at hl 1 rfl) ?_
  refine va_mmax (rest := [.ref (G.1 + h)]) hx hb (hml.trans hl.1.symm) hown (ht _ wm_RX3_7) (ht _ wt_yJ9_max_7cf53) (ht _ wn_RJ9) (ht _ wc_yJ9_max_7cf53) (Nat.le_of_ble_eq_true rfl) (Nat.le_of_ble_eq_true rfl) (Nat.zero_le _) (Nat.zero_le _) dX3_init_7 ?_
  refine lv_topi (fun z ez => ?_)
  have ez : z = x := ez.trans hN.1
  rw [ez]
  refine nw_newa (xs := [.inr (3, [.null, .int 0])]) (N := N) hx hb ht hSt hh hP hS hN.2 1 rfl (Nat.le_of_ble_eq_true rfl) (by show 0 + N ≤ N; omega) dX3_init_10 (fun H hP hS => ?_)
  have hP : gP G (pre ++ (.inr (3, [.null, .int 0]) :: [.inl (G.2.2.1.1, N, .inl (fun _ => 0))])) H := hP
  refine W.widen (k := 1) (n := N) (by omega) (by omega) ?_
  refine nw_putF (xs := (.inr (3, [.null, .int 0]) :: [.inl (G.2.2.1.1, N, .inl (fun _ => 0))])) (ci := 3) (v := .ref (G.1 + (h + 1))) (ty := .array .int) (C := RX3) (T := TX3) (N := 2) hx hb ht inX3 tyX3 tyX3_ok nmX3 hown hSt hh hP hS 0 rfl rfl 0 (by decide) (ht _ wf_RX3_13) rfl hin rfl (by decide +kernel) rfl rfl (Nat.le_of_ble_eq_true rfl) dX3_init_12 (fun H locs hP hS => ?_)
  have hP : gP G (pre ++ (.inr (3, [.ref (G.1 + (h + 1)), .int 0]) :: [.inl (G.2.2.1.1, N, .inl (fun _ => 0))])) H := hP
  have hP : gP G (pre ++ rowW G h N) H := hP
  exact W.vret hx hb hr (nw_end hP hSt hS) hS.2.2 dX3_init_15
set_option maxHeartbeats 4000000 in
set_option maxRecDepth 100000 in
theorem cn_X4 (l : Launch) (G : Gm) (pre : List va_E) (h : Nat) (hh : pre.length = h) : Cn l G yX4_init cX4_init 1 ({ frames := 1, cells := 0, slots := 0, locals := 64 } : Room) [.ref (G.1 + h)] (pre ++ [.inr (4, [.int 0, .int 0])]) (pre ++ [.inr (4, [.int 0, .int 0])]) 0 0 := by
  refine cn_of (by decide) rfl (Nat.le_of_ble_eq_true rfl) ?_
  intro p e s m below meth c E_ ls H hl hP hS
  obtain ⟨hx, hb, hml, hown, hts, ht, hr, hlocks, hSt, hin⟩ := id E_
  have hl : lv_has ls 1 [(0, .ref (G.1 + h))] := hl
  refine lv_aload_n hx hb dX4_init_0 rfl (lv_at hl 0 rfl) ?_
  refine W.objInit hx hb hown (ht _ wm_RX4_1) (ht _ wi_objectInit) (ht _ wc_objectInit) rfl (by rw [hml]; exact hl.1) rfl dX4_init_1 (Nat.le_of_ble_eq_true rfl) (Nat.le_of_ble_eq_true rfl) ?_
  refine W.eq (g2 := F0 m 4 ls []) rfl ?_
  have hP : gP G (pre ++ [.inr (4, [.int 0, .int 0])]) H := hP
  exact W.vret hx hb hr (nw_end hP hSt hS) hS.2.2 dX4_init_4
set_option maxHeartbeats 4000000 in
set_option maxRecDepth 100000 in
theorem cn_X5 (l : Launch) (G : Gm) (pre : List va_E) (h : Nat) (hh : pre.length = h) : Cn l G yX5_init cX5_init 1 ({ frames := 1, cells := 0, slots := 0, locals := 64 } : Room) [.ref (G.1 + h)] (pre ++ [.inr (5, [.int 0, .int 0, .int 0, .int 0, .int 0, .int 0])]) (pre ++ [.inr (5, [.int 0, .int 0, .int 0, .int 0, .int 0, .int 0])]) 0 0 := by
  refine cn_of (by decide) rfl (Nat.le_of_ble_eq_true rfl) ?_
  intro p e s m below meth c E_ ls H hl hP hS
  obtain ⟨hx, hb, hml, hown, hts, ht, hr, hlocks, hSt, hin⟩ := id E_
  have hl : lv_has ls 1 [(0, .ref (G.1 + h))] := hl
  refine lv_aload_n hx hb dX5_init_0 rfl (lv_at hl 0 rfl) ?_
  refine W.objInit hx hb hown (ht _ wm_RX5_3) (ht _ wi_objectInit) (ht _ wc_objectInit) rfl (by rw [hml]; exact hl.1) rfl dX5_init_1 (Nat.le_of_ble_eq_true rfl) (Nat.le_of_ble_eq_true rfl) ?_
  refine W.eq (g2 := F0 m 4 ls []) rfl ?_
  have hP : gP G (pre ++ [.inr (5, [.int 0, .int 0, .int 0, .int 0, .int 0, .int 0])]) H := hP
  exact W.vret hx hb hr (nw_end hP hSt hS) hS.2.2 dX5_init_4
set_option maxHeartbeats 4000000 in
set_option maxRecDepth 100000 in
theorem cn_X0 (l : Launch) (G : Gm) (pre : List va_E) (h : Nat) (hh : pre.length = h) (x : Int32) : Cn l G yX0_init cX0_init 2 ({ frames := 2, cells := 4, slots := 104, locals := 128 } : Room) [.ref (G.1 + h), .int x] (pre ++ [.inr (0, [.int 0, .null, .null])]) (pre ++ lawW G h x) 4 104 := by
  refine cn_of (by decide) rfl (Nat.le_of_ble_eq_true rfl) ?_
  intro p e s m below meth c E_ ls H hl hP hS
  obtain ⟨hx, hb, hml, hown, hts, ht, hr, hlocks, hSt, hin⟩ := id E_
  have hl : lv_has ls 2 [(0, .ref (G.1 + h)), (1, .int x)] := hl
  refine lv_aload_n hx hb dX0_init_0 rfl (lv_at hl 0 rfl) ?_
  refine W.objInit hx hb hown (ht _ wm_RX0_3) (ht _ wi_objectInit) (ht _ wc_objectInit) rfl (by rw [hml]; exact hl.1) rfl dX0_init_1 (Nat.le_of_ble_eq_true rfl) (Nat.le_of_ble_eq_true rfl) ?_
  refine W.eq (g2 := F0 m 4 ls []) rfl ?_
  refine lv_aload_n hx hb dX0_init_4 rfl (lv_at hl 0 rfl) ?_
  refine nw_new (xs := [.inr (0, [.int 0, .null, .null])]) (ci := 3) (fs := [.null, .int 0]) (C := RX3) (T := TX3) (N := 2) hx hb ht inX3 tyX3 tyX3_ok hown (ht _ wl_RX0_9) (ht _ wq_RX3) (ht _ wn_RX3) hSt hh hP hS rfl (fun j hj => by rcases (show j = 0 ∨ j = 1 by omega) with rfl | rfl <;> rfl) 1 rfl (Nat.le_of_ble_eq_true rfl) (Nat.le_of_ble_eq_true rfl) dX0_init_5 (fun H hP hS => ?_)
  refine W.widen (k := 1) (n := 2) (by omega) (by omega) ?_
  refine lv_dup hx hb dX0_init_8 rfl ?_
  refine lv_bipush (v := 50) hx hb dX0_init_9 (by decide) ?_
  refine nw_I (pre := pre) (xs := [.inr (0, [.int 0, .null, .null])]) (As := [.int 50]) (rest := [.ref (G.1 + (h + 1)), .ref (G.1 + h)]) (n := 1) (mc := 1) (ms := 50) ⟨hx, hb, hml, hown, hts⟩ (cn_X3 l G (pre ++ [.inr (0, [.int 0, .null, .null])]) (h + 1) (by rw [List.length_append, hh]; rfl) 50 50 (by decide)) wm_RX0_11 wi_yX3_init wn_RX3 wc_yX3_init rfl (by decide) ⟨(Nat.le_of_ble_eq_true rfl), (Nat.le_of_ble_eq_true rfl)⟩ ⟨rfl, rfl⟩ hSt hP hS rfl hl.1 rfl (Nat.le_of_ble_eq_true rfl) dX0_init_11 ⟨(Nat.le_of_ble_eq_true rfl), (Nat.le_of_ble_eq_true rfl)⟩ (fun H locs hP hS => ?_)
  have hP : gP G (pre ++ (.inr (0, [.int 0, .null, .null]) :: rowW G (h + 1) 50)) H := hP
  refine W.widen (k := 2) (n := 52) (by omega) (by omega) ?_
  refine nw_putF (xs := (.inr (0, [.int 0, .null, .null]) :: rowW G (h + 1) 50)) (ci := 0) (v := .ref (G.1 + (h + 1))) (ty := .object "RaddleMarks$Row") (C := RX0) (T := TX0) (N := 3) hx hb ht inX0 tyX0 tyX0_ok nmX0 hown hSt hh hP hS 0 rfl rfl 1 (by decide) (ht _ wf_RX0_14) rfl hin rfl (by decide +kernel) rfl rfl (Nat.le_of_ble_eq_true rfl) dX0_init_14 (fun H locs hP hS => ?_)
  have hP : gP G (pre ++ (.inr (0, [.int 0, .ref (G.1 + (h + 1)), .null]) :: rowW G (h + 1) 50)) H := hP
  refine lv_aload_n hx hb dX0_init_17 rfl (lv_at hl 0 rfl) ?_
  refine nw_new (xs := (.inr (0, [.int 0, .ref (G.1 + (h + 1)), .null]) :: rowW G (h + 1) 50)) (ci := 3) (fs := [.null, .int 0]) (C := RX3) (T := TX3) (N := 2) hx hb ht inX3 tyX3 tyX3_ok hown (ht _ wl_RX0_9) (ht _ wq_RX3) (ht _ wn_RX3) hSt hh hP hS rfl (fun j hj => by rcases (show j = 0 ∨ j = 1 by omega) with rfl | rfl <;> rfl) 3 rfl (Nat.le_of_ble_eq_true rfl) (Nat.le_of_ble_eq_true rfl) dX0_init_18 (fun H hP hS => ?_)
  refine W.widen (k := 3) (n := 54) (by omega) (by omega) ?_
  refine lv_dup hx hb dX0_init_21 rfl ?_
  refine lv_bipush (v := 50) hx hb dX0_init_22 (by decide) ?_
  refine nw_I (pre := pre) (xs := (.inr (0, [.int 0, .ref (G.1 + (h + 1)), .null]) :: rowW G (h + 1) 50)) (As := [.int 50]) (rest := [.ref (G.1 + (h + 3)), .ref (G.1 + h)]) (n := 1) (mc := 1) (ms := 50) ⟨hx, hb, hml, hown, hts⟩ (cn_X3 l G (pre ++ (.inr (0, [.int 0, .ref (G.1 + (h + 1)), .null]) :: rowW G (h + 1) 50)) (h + 3) (by rw [List.length_append, hh]; rfl) 50 50 (by decide)) wm_RX0_11 wi_yX3_init wn_RX3 wc_yX3_init rfl (by decide) ⟨(Nat.le_of_ble_eq_true rfl), (Nat.le_of_ble_eq_true rfl)⟩ ⟨rfl, rfl⟩ hSt hP hS rfl hl.1 rfl (Nat.le_of_ble_eq_true rfl) dX0_init_24 ⟨(Nat.le_of_ble_eq_true rfl), (Nat.le_of_ble_eq_true rfl)⟩ (fun H locs hP hS => ?_)
  have hP : gP G (pre ++ (.inr (0, [.int 0, .ref (G.1 + (h + 1)), .null]) :: (rowW G (h + 1) 50 ++ rowW G (h + 3) 50))) H := hP
  refine W.widen (k := 4) (n := 104) (by omega) (by omega) ?_
  refine nw_putF (xs := (.inr (0, [.int 0, .ref (G.1 + (h + 1)), .null]) :: (rowW G (h + 1) 50 ++ rowW G (h + 3) 50))) (ci := 0) (v := .ref (G.1 + (h + 3))) (ty := .object "RaddleMarks$Row") (C := RX0) (T := TX0) (N := 3) hx hb ht inX0 tyX0 tyX0_ok nmX0 hown hSt hh hP hS 0 rfl rfl 2 (by decide) (ht _ wf_RX0_20) rfl hin rfl (by decide +kernel) rfl rfl (Nat.le_of_ble_eq_true rfl) dX0_init_27 (fun H locs hP hS => ?_)
  have hP : gP G (pre ++ (.inr (0, [.int 0, .ref (G.1 + (h + 1)), .ref (G.1 + (h + 3))]) :: (rowW G (h + 1) 50 ++ rowW G (h + 3) 50))) H := hP
  refine lv_aload_n hx hb dX0_init_30 rfl (lv_at hl 0 rfl) ?_
  refine lv_iload_n hx hb dX0_init_31 rfl (lv_at hl 1 rfl) ?_
  refine nw_putF (xs := (.inr (0, [.int 0, .ref (G.1 + (h + 1)), .ref (G.1 + (h + 3))]) :: (rowW G (h + 1) 50 ++ rowW G (h + 3) 50))) (ci := 0) (v := .int x) (ty := .int) (C := RX0) (T := TX0) (N := 3) hx hb ht inX0 tyX0 tyX0_ok nmX0 hown hSt hh hP hS 0 rfl rfl 0 (by decide) (ht _ wf_RX0_23) rfl hin rfl (by decide +kernel) (vp_nar_int _) rfl (Nat.le_of_ble_eq_true rfl) dX0_init_32 (fun H locs hP hS => ?_)
  have hP : gP G (pre ++ (.inr (0, [.int x, .ref (G.1 + (h + 1)), .ref (G.1 + (h + 3))]) :: (rowW G (h + 1) 50 ++ rowW G (h + 3) 50))) H := hP
  have hP : gP G (pre ++ lawW G h x) H := hP
  exact W.vret hx hb hr (nw_end hP hSt hS) hS.2.2 dX0_init_35
set_option maxHeartbeats 4000000 in
set_option maxRecDepth 100000 in
theorem cn_X2 (l : Launch) (G : Gm) (pre : List va_E) (h : Nat) (hh : pre.length = h) : Cn l G yX2_init cX2_init 1 ({ frames := 2, cells := 4, slots := 104, locals := 128 } : Room) [.ref (G.1 + h)] (pre ++ [.inr (2, [.null, .null, .int 0, .int 0])]) (pre ++ rdrW G h) 4 104 := by
  refine cn_of (by decide) rfl (Nat.le_of_ble_eq_true rfl) ?_
  intro p e s m below meth c E_ ls H hl hP hS
  obtain ⟨hx, hb, hml, hown, hts, ht, hr, hlocks, hSt, hin⟩ := id E_
  have hl : lv_has ls 1 [(0, .ref (G.1 + h))] := hl
  refine lv_aload_n hx hb dX2_init_0 rfl (lv_at hl 0 rfl) ?_
  refine W.objInit hx hb hown (ht _ wm_RX2_3) (ht _ wi_objectInit) (ht _ wc_objectInit) rfl (by rw [hml]; exact hl.1) rfl dX2_init_1 (Nat.le_of_ble_eq_true rfl) (Nat.le_of_ble_eq_true rfl) ?_
  refine W.eq (g2 := F0 m 4 ls []) rfl ?_
  refine lv_aload_n hx hb dX2_init_4 rfl (lv_at hl 0 rfl) ?_
  refine nw_new (xs := [.inr (2, [.null, .null, .int 0, .int 0])]) (ci := 3) (fs := [.null, .int 0]) (C := RX3) (T := TX3) (N := 2) hx hb ht inX3 tyX3 tyX3_ok hown (ht _ wl_RX2_9) (ht _ wq_RX3) (ht _ wn_RX3) hSt hh hP hS rfl (fun j hj => by rcases (show j = 0 ∨ j = 1 by omega) with rfl | rfl <;> rfl) 1 rfl (Nat.le_of_ble_eq_true rfl) (Nat.le_of_ble_eq_true rfl) dX2_init_5 (fun H hP hS => ?_)
  refine W.widen (k := 1) (n := 2) (by omega) (by omega) ?_
  refine lv_dup hx hb dX2_init_8 rfl ?_
  refine lv_bipush (v := 50) hx hb dX2_init_9 (by decide) ?_
  refine nw_I (pre := pre) (xs := [.inr (2, [.null, .null, .int 0, .int 0])]) (As := [.int 50]) (rest := [.ref (G.1 + (h + 1)), .ref (G.1 + h)]) (n := 1) (mc := 1) (ms := 50) ⟨hx, hb, hml, hown, hts⟩ (cn_X3 l G (pre ++ [.inr (2, [.null, .null, .int 0, .int 0])]) (h + 1) (by rw [List.length_append, hh]; rfl) 50 50 (by decide)) wm_RX2_11 wi_yX3_init wn_RX3 wc_yX3_init rfl (by decide) ⟨(Nat.le_of_ble_eq_true rfl), (Nat.le_of_ble_eq_true rfl)⟩ ⟨rfl, rfl⟩ hSt hP hS rfl hl.1 rfl (Nat.le_of_ble_eq_true rfl) dX2_init_11 ⟨(Nat.le_of_ble_eq_true rfl), (Nat.le_of_ble_eq_true rfl)⟩ (fun H locs hP hS => ?_)
  have hP : gP G (pre ++ (.inr (2, [.null, .null, .int 0, .int 0]) :: rowW G (h + 1) 50)) H := hP
  refine W.widen (k := 2) (n := 52) (by omega) (by omega) ?_
  refine nw_putF (xs := (.inr (2, [.null, .null, .int 0, .int 0]) :: rowW G (h + 1) 50)) (ci := 2) (v := .ref (G.1 + (h + 1))) (ty := .object "RaddleMarks$Row") (C := RX2) (T := TX2) (N := 4) hx hb ht inX2 tyX2 tyX2_ok nmX2 hown hSt hh hP hS 0 rfl rfl 0 (by decide) (ht _ wf_RX2_14) rfl hin rfl (by decide +kernel) rfl rfl (Nat.le_of_ble_eq_true rfl) dX2_init_14 (fun H locs hP hS => ?_)
  have hP : gP G (pre ++ (.inr (2, [.ref (G.1 + (h + 1)), .null, .int 0, .int 0]) :: rowW G (h + 1) 50)) H := hP
  refine lv_aload_n hx hb dX2_init_17 rfl (lv_at hl 0 rfl) ?_
  refine nw_new (xs := (.inr (2, [.ref (G.1 + (h + 1)), .null, .int 0, .int 0]) :: rowW G (h + 1) 50)) (ci := 3) (fs := [.null, .int 0]) (C := RX3) (T := TX3) (N := 2) hx hb ht inX3 tyX3 tyX3_ok hown (ht _ wl_RX2_9) (ht _ wq_RX3) (ht _ wn_RX3) hSt hh hP hS rfl (fun j hj => by rcases (show j = 0 ∨ j = 1 by omega) with rfl | rfl <;> rfl) 3 rfl (Nat.le_of_ble_eq_true rfl) (Nat.le_of_ble_eq_true rfl) dX2_init_18 (fun H hP hS => ?_)
  refine W.widen (k := 3) (n := 54) (by omega) (by omega) ?_
  refine lv_dup hx hb dX2_init_21 rfl ?_
  refine lv_bipush (v := 50) hx hb dX2_init_22 (by decide) ?_
  refine nw_I (pre := pre) (xs := (.inr (2, [.ref (G.1 + (h + 1)), .null, .int 0, .int 0]) :: rowW G (h + 1) 50)) (As := [.int 50]) (rest := [.ref (G.1 + (h + 3)), .ref (G.1 + h)]) (n := 1) (mc := 1) (ms := 50) ⟨hx, hb, hml, hown, hts⟩ (cn_X3 l G (pre ++ (.inr (2, [.ref (G.1 + (h + 1)), .null, .int 0, .int 0]) :: rowW G (h + 1) 50)) (h + 3) (by rw [List.length_append, hh]; rfl) 50 50 (by decide)) wm_RX2_11 wi_yX3_init wn_RX3 wc_yX3_init rfl (by decide) ⟨(Nat.le_of_ble_eq_true rfl), (Nat.le_of_ble_eq_true rfl)⟩ ⟨rfl, rfl⟩ hSt hP hS rfl hl.1 rfl (Nat.le_of_ble_eq_true rfl) dX2_init_24 ⟨(Nat.le_of_ble_eq_true rfl), (Nat.le_of_ble_eq_true rfl)⟩ (fun H locs hP hS => ?_)
  have hP : gP G (pre ++ (.inr (2, [.ref (G.1 + (h + 1)), .null, .int 0, .int 0]) :: (rowW G (h + 1) 50 ++ rowW G (h + 3) 50))) H := hP
  refine W.widen (k := 4) (n := 104) (by omega) (by omega) ?_
  refine nw_putF (xs := (.inr (2, [.ref (G.1 + (h + 1)), .null, .int 0, .int 0]) :: (rowW G (h + 1) 50 ++ rowW G (h + 3) 50))) (ci := 2) (v := .ref (G.1 + (h + 3))) (ty := .object "RaddleMarks$Row") (C := RX2) (T := TX2) (N := 4) hx hb ht inX2 tyX2 tyX2_ok nmX2 hown hSt hh hP hS 0 rfl rfl 1 (by decide) (ht _ wf_RX2_20) rfl hin rfl (by decide +kernel) rfl rfl (Nat.le_of_ble_eq_true rfl) dX2_init_27 (fun H locs hP hS => ?_)
  have hP : gP G (pre ++ (.inr (2, [.ref (G.1 + (h + 1)), .ref (G.1 + (h + 3)), .int 0, .int 0]) :: (rowW G (h + 1) 50 ++ rowW G (h + 3) 50))) H := hP
  have hP : gP G (pre ++ rdrW G h) H := hP
  exact W.vret hx hb hr (nw_end hP hSt hS) hS.2.2 dX2_init_30
set_option maxHeartbeats 4000000 in
set_option maxRecDepth 100000 in
theorem cn_X7 (l : Launch) (G : Gm) (pre : List va_E) (h : Nat) (hh : pre.length = h) : Cn l G yX7_init cX7_init 1 ({ frames := 2, cells := 2, slots := 42, locals := 128 } : Room) [.ref (G.1 + h)] (pre ++ [.inr (7, [.null, .int 0, .int 0, .int 0])]) (pre ++ vcsW G h) 2 42 := by
  refine cn_of (by decide) rfl (Nat.le_of_ble_eq_true rfl) ?_
  intro p e s m below meth c E_ ls H hl hP hS
  obtain ⟨hx, hb, hml, hown, hts, ht, hr, hlocks, hSt, hin⟩ := id E_
  have hl : lv_has ls 1 [(0, .ref (G.1 + h))] := hl
  refine lv_aload_n hx hb dX7_init_0 rfl (lv_at hl 0 rfl) ?_
  refine W.objInit hx hb hown (ht _ wm_RX7_3) (ht _ wi_objectInit) (ht _ wc_objectInit) rfl (by rw [hml]; exact hl.1) rfl dX7_init_1 (Nat.le_of_ble_eq_true rfl) (Nat.le_of_ble_eq_true rfl) ?_
  refine W.eq (g2 := F0 m 4 ls []) rfl ?_
  refine lv_aload_n hx hb dX7_init_4 rfl (lv_at hl 0 rfl) ?_
  refine nw_new (xs := [.inr (7, [.null, .int 0, .int 0, .int 0])]) (ci := 3) (fs := [.null, .int 0]) (C := RX3) (T := TX3) (N := 2) hx hb ht inX3 tyX3 tyX3_ok hown (ht _ wl_RX7_9) (ht _ wq_RX3) (ht _ wn_RX3) hSt hh hP hS rfl (fun j hj => by rcases (show j = 0 ∨ j = 1 by omega) with rfl | rfl <;> rfl) 1 rfl (Nat.le_of_ble_eq_true rfl) (Nat.le_of_ble_eq_true rfl) dX7_init_5 (fun H hP hS => ?_)
  refine W.widen (k := 1) (n := 2) (by omega) (by omega) ?_
  refine lv_dup hx hb dX7_init_8 rfl ?_
  refine lv_bipush (v := 40) hx hb dX7_init_9 (by decide) ?_
  refine nw_I (pre := pre) (xs := [.inr (7, [.null, .int 0, .int 0, .int 0])]) (As := [.int 40]) (rest := [.ref (G.1 + (h + 1)), .ref (G.1 + h)]) (n := 1) (mc := 1) (ms := 40) ⟨hx, hb, hml, hown, hts⟩ (cn_X3 l G (pre ++ [.inr (7, [.null, .int 0, .int 0, .int 0])]) (h + 1) (by rw [List.length_append, hh]; rfl) 40 40 (by decide)) wm_RX7_11 wi_yX3_init wn_RX3 wc_yX3_init rfl (by decide) ⟨(Nat.le_of_ble_eq_true rfl), (Nat.le_of_ble_eq_true rfl)⟩ ⟨rfl, rfl⟩ hSt hP hS rfl hl.1 rfl (Nat.le_of_ble_eq_true rfl) dX7_init_11 ⟨(Nat.le_of_ble_eq_true rfl), (Nat.le_of_ble_eq_true rfl)⟩ (fun H locs hP hS => ?_)
  have hP : gP G (pre ++ (.inr (7, [.null, .int 0, .int 0, .int 0]) :: rowW G (h + 1) 40)) H := hP
  refine W.widen (k := 2) (n := 42) (by omega) (by omega) ?_
  refine nw_putF (xs := (.inr (7, [.null, .int 0, .int 0, .int 0]) :: rowW G (h + 1) 40)) (ci := 7) (v := .ref (G.1 + (h + 1))) (ty := .object "RaddleMarks$Row") (C := RX7) (T := TX7) (N := 4) hx hb ht inX7 tyX7 tyX7_ok nmX7 hown hSt hh hP hS 0 rfl rfl 0 (by decide) (ht _ wf_RX7_14) rfl hin rfl (by decide +kernel) rfl rfl (Nat.le_of_ble_eq_true rfl) dX7_init_14 (fun H locs hP hS => ?_)
  have hP : gP G (pre ++ (.inr (7, [.ref (G.1 + (h + 1)), .int 0, .int 0, .int 0]) :: rowW G (h + 1) 40)) H := hP
  have hP : gP G (pre ++ vcsW G h) H := hP
  exact W.vret hx hb hr (nw_end hP hSt hS) hS.2.2 dX7_init_17
set_option maxHeartbeats 4000000 in
set_option maxRecDepth 100000 in
theorem cn_X6 (l : Launch) (G : Gm) (pre : List va_E) (h : Nat) (hh : pre.length = h) : Cn l G yX6_init cX6_init 1 ({ frames := 2, cells := 2, slots := 42, locals := 128 } : Room) [.ref (G.1 + h)] (pre ++ [.inr (6, [.null, .int 0])]) (pre ++ shtW G h) 2 42 := by
  refine cn_of (by decide) rfl (Nat.le_of_ble_eq_true rfl) ?_
  intro p e s m below meth c E_ ls H hl hP hS
  obtain ⟨hx, hb, hml, hown, hts, ht, hr, hlocks, hSt, hin⟩ := id E_
  have hl : lv_has ls 1 [(0, .ref (G.1 + h))] := hl
  refine lv_aload_n hx hb dX6_init_0 rfl (lv_at hl 0 rfl) ?_
  refine W.objInit hx hb hown (ht _ wm_RX6_3) (ht _ wi_objectInit) (ht _ wc_objectInit) rfl (by rw [hml]; exact hl.1) rfl dX6_init_1 (Nat.le_of_ble_eq_true rfl) (Nat.le_of_ble_eq_true rfl) ?_
  refine W.eq (g2 := F0 m 4 ls []) rfl ?_
  refine lv_aload_n hx hb dX6_init_4 rfl (lv_at hl 0 rfl) ?_
  refine nw_new (xs := [.inr (6, [.null, .int 0])]) (ci := 3) (fs := [.null, .int 0]) (C := RX3) (T := TX3) (N := 2) hx hb ht inX3 tyX3 tyX3_ok hown (ht _ wl_RX6_9) (ht _ wq_RX3) (ht _ wn_RX3) hSt hh hP hS rfl (fun j hj => by rcases (show j = 0 ∨ j = 1 by omega) with rfl | rfl <;> rfl) 1 rfl (Nat.le_of_ble_eq_true rfl) (Nat.le_of_ble_eq_true rfl) dX6_init_5 (fun H hP hS => ?_)
  refine W.widen (k := 1) (n := 2) (by omega) (by omega) ?_
  refine lv_dup hx hb dX6_init_8 rfl ?_
  refine lv_bipush (v := 40) hx hb dX6_init_9 (by decide) ?_
  refine nw_I (pre := pre) (xs := [.inr (6, [.null, .int 0])]) (As := [.int 40]) (rest := [.ref (G.1 + (h + 1)), .ref (G.1 + h)]) (n := 1) (mc := 1) (ms := 40) ⟨hx, hb, hml, hown, hts⟩ (cn_X3 l G (pre ++ [.inr (6, [.null, .int 0])]) (h + 1) (by rw [List.length_append, hh]; rfl) 40 40 (by decide)) wm_RX6_11 wi_yX3_init wn_RX3 wc_yX3_init rfl (by decide) ⟨(Nat.le_of_ble_eq_true rfl), (Nat.le_of_ble_eq_true rfl)⟩ ⟨rfl, rfl⟩ hSt hP hS rfl hl.1 rfl (Nat.le_of_ble_eq_true rfl) dX6_init_11 ⟨(Nat.le_of_ble_eq_true rfl), (Nat.le_of_ble_eq_true rfl)⟩ (fun H locs hP hS => ?_)
  have hP : gP G (pre ++ (.inr (6, [.null, .int 0]) :: rowW G (h + 1) 40)) H := hP
  refine W.widen (k := 2) (n := 42) (by omega) (by omega) ?_
  refine nw_putF (xs := (.inr (6, [.null, .int 0]) :: rowW G (h + 1) 40)) (ci := 6) (v := .ref (G.1 + (h + 1))) (ty := .object "RaddleMarks$Row") (C := RX6) (T := TX6) (N := 2) hx hb ht inX6 tyX6 tyX6_ok nmX6 hown hSt hh hP hS 0 rfl rfl 0 (by decide) (ht _ wf_RX6_14) rfl hin rfl (by decide +kernel) rfl rfl (Nat.le_of_ble_eq_true rfl) dX6_init_14 (fun H locs hP hS => ?_)
  have hP : gP G (pre ++ (.inr (6, [.ref (G.1 + (h + 1)), .int 0]) :: rowW G (h + 1) 40)) H := hP
  have hP : gP G (pre ++ shtW G h) H := hP
  exact W.vret hx hb hr (nw_end hP hSt hS) hS.2.2 dX6_init_17
