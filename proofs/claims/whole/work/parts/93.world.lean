def wldW (G : Gm) (h : Nat) : List va_E := .inr (8, [.ref (G.1 + (h + 1)), .ref (G.1 + (h + 30)), .ref (G.1 + (h + 32)), .int 1]) :: ((moorW G (h + 1) ++ rowW G (h + 30) 50) ++ rowW G (h + 32) 20)
set_option maxHeartbeats 4000000 in
set_option maxRecDepth 100000 in
theorem cn_X8 (l : Launch) (G : Gm) (pre : List va_E) (h : Nat) (hh : pre.length = h) : Cn l G yX8_init cX8_init 1 ({ frames := 4, cells := 33, slots := 383, locals := 256 } : Room) [.ref (G.1 + h)] (pre ++ [.inr (8, [.null, .null, .null, .int 0])]) (pre ++ wldW G h) 33 383 := by
  refine cn_of (by decide) rfl (Nat.le_of_ble_eq_true rfl) ?_
  intro p e s m below meth c E_ ls H hl hP hS
  obtain ⟨hx, hb, hml, hown, hts, ht, hr, hlocks, hSt, hin⟩ := id E_
  have hl : lv_has ls 1 [(0, .ref (G.1 + h))] := hl
  refine lv_aload_n hx hb dX8_init_0 rfl (lv_at hl 0 rfl) ?_
  refine W.objInit hx hb hown (ht _ wm_RX8_3) (ht _ wi_objectInit) (ht _ wc_objectInit) rfl (by rw [hml]; exact hl.1) rfl dX8_init_1 (Nat.le_of_ble_eq_true rfl) (Nat.le_of_ble_eq_true rfl) ?_
  refine W.eq (g2 := F0 m 4 ls []) rfl ?_
  refine lv_aload_n hx hb dX8_init_4 rfl (lv_at hl 0 rfl) ?_
  refine nw_new (xs := [.inr (8, [.null, .null, .null, .int 0])]) (ci := 1) (fs := [.null, .null, .null, .null, .null, .null, .int 0, .int 0, .int 0]) (C := RX1) (T := TX1) (N := 9) hx hb ht inX1 tyX1 tyX1_ok hown (ht _ wl_RX8_9) (ht _ wq_RX1) (ht _ wn_RX1) hSt hh hP hS rfl (fun j hj => by rcases (show j = 0 ∨ j = 1 ∨ j = 2 ∨ j = 3 ∨ j = 4 ∨ j = 5 ∨ j = 6 ∨ j = 7 ∨ j = 8 by omega) with rfl | rfl | rfl | rfl | rfl | rfl | rfl | rfl | rfl <;> rfl) 1 rfl (Nat.le_of_ble_eq_true rfl) (Nat.le_of_ble_eq_true rfl) dX8_init_5 (fun H hP hS => ?_)
  refine W.widen (k := 1) (n := 9) (by omega) (by omega) ?_
  refine lv_dup hx hb dX8_init_8 rfl ?_
  refine nw_I (pre := pre) (xs := [.inr (8, [.null, .null, .null, .int 0])]) (As := []) (rest := [.ref (G.1 + (h + 1)), .ref (G.1 + h)]) (n := 0) (mc := 28) (ms := 300) ⟨hx, hb, hml, hown, hts⟩ (cn_X1 l G (pre ++ [.inr (8, [.null, .null, .null, .int 0])]) (h + 1) (by rw [List.length_append, hh]; rfl)) wm_RX8_11 wi_yX1_init wn_RX1 wc_yX1_init rfl (by decide) ⟨(Nat.le_of_ble_eq_true rfl), (Nat.le_of_ble_eq_true rfl)⟩ ⟨rfl, rfl⟩ hSt hP hS rfl hl.1 rfl (Nat.le_of_ble_eq_true rfl) dX8_init_9 ⟨(Nat.le_of_ble_eq_true rfl), (Nat.le_of_ble_eq_true rfl)⟩ (fun H locs hP hS => ?_)
  have hP : gP G (pre ++ (.inr (8, [.null, .null, .null, .int 0]) :: moorW G (h + 1))) H := hP
  refine W.widen (k := 29) (n := 309) (by omega) (by omega) ?_
  refine nw_putF (xs := (.inr (8, [.null, .null, .null, .int 0]) :: moorW G (h + 1))) (ci := 8) (v := .ref (G.1 + (h + 1))) (ty := .object "RaddleMarks$Moor") (C := RX8) (T := TX8) (N := 4) hx hb ht inX8 tyX8 tyX8_ok nmX8 hown hSt hh hP hS 0 rfl rfl 0 (by decide) (ht _ wf_RX8_12) rfl hin rfl (by decide +kernel) rfl rfl (Nat.le_of_ble_eq_true rfl) dX8_init_12 (fun H locs hP hS => ?_)
  have hP : gP G (pre ++ (.inr (8, [.ref (G.1 + (h + 1)), .null, .null, .int 0]) :: moorW G (h + 1))) H := hP
  refine lv_aload_n hx hb dX8_init_15 rfl (lv_at hl 0 rfl) ?_
  refine nw_new (xs := (.inr (8, [.ref (G.1 + (h + 1)), .null, .null, .int 0]) :: moorW G (h + 1))) (ci := 3) (fs := [.null, .int 0]) (C := RX3) (T := TX3) (N := 2) hx hb ht inX3 tyX3 tyX3_ok hown (ht _ wl_RX8_18) (ht _ wq_RX3) (ht _ wn_RX3) hSt hh hP hS rfl (fun j hj => by rcases (show j = 0 ∨ j = 1 by omega) with rfl | rfl <;> rfl) 30 rfl (Nat.le_of_ble_eq_true rfl) (Nat.le_of_ble_eq_true rfl) dX8_init_16 (fun H hP hS => ?_)
  refine W.widen (k := 30) (n := 311) (by omega) (by omega) ?_
  refine lv_dup hx hb dX8_init_19 rfl ?_
  refine lv_bipush (v := 50) hx hb dX8_init_20 (by decide) ?_
  refine nw_I (pre := pre) (xs := (.inr (8, [.ref (G.1 + (h + 1)), .null, .null, .int 0]) :: moorW G (h + 1))) (As := [.int 50]) (rest := [.ref (G.1 + (h + 30)), .ref (G.1 + h)]) (n := 1) (mc := 1) (ms := 50) ⟨hx, hb, hml, hown, hts⟩ (cn_X3 l G (pre ++ (.inr (8, [.ref (G.1 + (h + 1)), .null, .null, .int 0]) :: moorW G (h + 1))) (h + 30) (by rw [List.length_append, hh]; rfl) 50 50 (by decide)) wm_RX8_20 wi_yX3_init wn_RX3 wc_yX3_init rfl (by decide) ⟨(Nat.le_of_ble_eq_true rfl), (Nat.le_of_ble_eq_true rfl)⟩ ⟨rfl, rfl⟩ hSt hP hS rfl hl.1 rfl (Nat.le_of_ble_eq_true rfl) dX8_init_22 ⟨(Nat.le_of_ble_eq_true rfl), (Nat.le_of_ble_eq_true rfl)⟩ (fun H locs hP hS => ?_)
  have hP : gP G (pre ++ (.inr (8, [.ref (G.1 + (h + 1)), .null, .null, .int 0]) :: (moorW G (h + 1) ++ rowW G (h + 30) 50))) H := hP
  refine W.widen (k := 31) (n := 361) (by omega) (by omega) ?_
  refine nw_putF (xs := (.inr (8, [.ref (G.1 + (h + 1)), .null, .null, .int 0]) :: (moorW G (h + 1) ++ rowW G (h + 30) 50))) (ci := 8) (v := .ref (G.1 + (h + 30))) (ty := .object "RaddleMarks$Row") (C := RX8) (T := TX8) (N := 4) hx hb ht inX8 tyX8 tyX8_ok nmX8 hown hSt hh hP hS 0 rfl rfl 1 (by decide) (ht _ wf_RX8_23) rfl hin rfl (by decide +kernel) rfl rfl (Nat.le_of_ble_eq_true rfl) dX8_init_25 (fun H locs hP hS => ?_)
  have hP : gP G (pre ++ (.inr (8, [.ref (G.1 + (h + 1)), .ref (G.1 + (h + 30)), .null, .int 0]) :: (moorW G (h + 1) ++ rowW G (h + 30) 50))) H := hP
  refine lv_aload_n hx hb dX8_init_28 rfl (lv_at hl 0 rfl) ?_
  refine nw_new (xs := (.inr (8, [.ref (G.1 + (h + 1)), .ref (G.1 + (h + 30)), .null, .int 0]) :: (moorW G (h + 1) ++ rowW G (h + 30) 50))) (ci := 3) (fs := [.null, .int 0]) (C := RX3) (T := TX3) (N := 2) hx hb ht inX3 tyX3 tyX3_ok hown (ht _ wl_RX8_18) (ht _ wq_RX3) (ht _ wn_RX3) hSt hh hP hS rfl (fun j hj => by rcases (show j = 0 ∨ j = 1 by omega) with rfl | rfl <;> rfl) 32 rfl (Nat.le_of_ble_eq_true rfl) (Nat.le_of_ble_eq_true rfl) dX8_init_29 (fun H hP hS => ?_)
  refine W.widen (k := 32) (n := 363) (by omega) (by omega) ?_
  refine lv_dup hx hb dX8_init_32 rfl ?_
  refine lv_bipush (v := 20) hx hb dX8_init_33 (by decide) ?_
  refine nw_I (pre := pre) (xs := (.inr (8, [.ref (G.1 + (h + 1)), .ref (G.1 + (h + 30)), .null, .int 0]) :: (moorW G (h + 1) ++ rowW G (h + 30) 50))) (As := [.int 20]) (rest := [.ref (G.1 + (h + 32)), .ref (G.1 + h)]) (n := 1) (mc := 1) (ms := 20) ⟨hx, hb, hml, hown, hts⟩ (cn_X3 l G (pre ++ (.inr (8, [.ref (G.1 + (h + 1)), .ref (G.1 + (h + 30)), .null, .int 0]) :: (moorW G (h + 1) ++ rowW G (h + 30) 50))) (h + 32) (by rw [List.length_append, hh]; rfl) 20 20 (by decide)) wm_RX8_20 wi_yX3_init wn_RX3 wc_yX3_init rfl (by decide) ⟨(Nat.le_of_ble_eq_true rfl), (Nat.le_of_ble_eq_true rfl)⟩ ⟨rfl, rfl⟩ hSt hP hS rfl hl.1 rfl (Nat.le_of_ble_eq_true rfl) dX8_init_35 ⟨(Nat.le_of_ble_eq_true rfl), (Nat.le_of_ble_eq_true rfl)⟩ (fun H locs hP hS => ?_)
  have hP : gP G (pre ++ (.inr (8, [.ref (G.1 + (h + 1)), .ref (G.1 + (h + 30)), .null, .int 0]) :: ((moorW G (h + 1) ++ rowW G (h + 30) 50) ++ rowW G (h + 32) 20))) H := hP
  refine W.widen (k := 33) (n := 383) (by omega) (by omega) ?_
  refine nw_putF (xs := (.inr (8, [.ref (G.1 + (h + 1)), .ref (G.1 + (h + 30)), .null, .int 0]) :: ((moorW G (h + 1) ++ rowW G (h + 30) 50) ++ rowW G (h + 32) 20))) (ci := 8) (v := .ref (G.1 + (h + 32))) (ty := .object "RaddleMarks$Row") (C := RX8) (T := TX8) (N := 4) hx hb ht inX8 tyX8 tyX8_ok nmX8 hown hSt hh hP hS 0 rfl rfl 2 (by decide) (ht _ wf_RX8_27) rfl hin rfl (by decide +kernel) rfl rfl (Nat.le_of_ble_eq_true rfl) dX8_init_38 (fun H locs hP hS => ?_)
  have hP : gP G (pre ++ (.inr (8, [.ref (G.1 + (h + 1)), .ref (G.1 + (h + 30)), .ref (G.1 + (h + 32)), .int 0]) :: ((moorW G (h + 1) ++ rowW G (h + 30) 50) ++ rowW G (h + 32) 20))) H := hP
  refine lv_aload_n hx hb dX8_init_41 rfl (lv_at hl 0 rfl) ?_
  refine lv_iconst (v := 1) hx hb dX8_init_42 (by decide) ?_
  refine nw_put (xs := (.inr (8, [.ref (G.1 + (h + 1)), .ref (G.1 + (h + 30)), .ref (G.1 + (h + 32)), .int 0]) :: ((moorW G (h + 1) ++ rowW G (h + 30) 50) ++ rowW G (h + 32) 20))) (ci := 8) (v := .int 1) (ty := .int) (C := RX8) (T := TX8) (N := 4) hx hb ht inX8 tyX8 tyX8_ok nmX8 hown hSt hh hP hS 0 rfl rfl 3 (by decide) (ht _ wf_RX8_30) rfl (by decide +kernel) (vp_nar_int _) rfl (Nat.le_of_ble_eq_true rfl) dX8_init_43 (fun H locs hP hS => ?_)
  have hP : gP G (pre ++ (.inr (8, [.ref (G.1 + (h + 1)), .ref (G.1 + (h + 30)), .ref (G.1 + (h + 32)), .int 1]) :: ((moorW G (h + 1) ++ rowW G (h + 30) 50) ++ rowW G (h + 32) 20))) H := hP
  have hP : gP G (pre ++ wldW G h) H := hP
  exact W.vret hx hb hr (nw_end hP hSt hS) hS.2.2 dX8_init_46
