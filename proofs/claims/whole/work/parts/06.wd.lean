def b_X9_refuse_20 (h : Nat) (Q : Int32 → Mem → Prop) (v1 : Int32) (M : Mem) : Prop :=
  Q ((-1000000000) - v1) M
def wp_X9_refuse (h : Nat) (a1 : Int32) (M : Mem) (Q : Int32 → Mem → Prop) : Prop :=
  kdT h = 9 ∧ ((a1 < 1 → b_X9_refuse_20 h Q a1 M) ∧ (¬ a1 < 1 → (5 < a1 → b_X9_refuse_20 h Q a1 M) ∧ (¬ 5 < a1 → vp_in a1 6 ∧ (vp_in a1 6 ∧ ∀ M_5, M_5 = mu M (h + 107) a1.toNatClampNeg ((M (h + 107) a1.toNatClampNeg) + 1) → b_X9_refuse_20 h Q a1 M_5))))
set_option maxHeartbeats 4000000 in
set_option maxRecDepth 100000 in
theorem so_X9_refuse (l : Launch) (G : Gm) (h : Nat) (a1 : Int32) (M : Mem) (Q : Int32 → Mem → Prop) (hw : wp_X9_refuse h a1 M Q) : Ct l G yX9_refuse cX9_refuse 2 (some .int) ({ frames := 0, cells := 0, slots := 0, locals := 0 } : Room) [.ref (G.1 + h), .int a1] M (Qi Q) := by
  unfold wp_X9_refuse at hw
  obtain ⟨kh, hw⟩ := hw
  refine ct_of (by decide) (Nat.le_of_ble_eq_true rfl) ?_
  intro p e s m below meth c E_ ls H hl hP hS
  obtain ⟨hx, hb, hml, hown, hts, ht, hr, hlocks, hSt, hTb⟩ := E_
  have hl : lv_has ls 2 [(0, .ref (G.1 + h)), (1, .int a1)] := hl
  have J_20 : ∀ (v1 : Int32) (M : Mem) (H : Heap) (locs : List Loc) (ls : Array Slot), b_X9_refuse_20 h Q v1 M → va_P G.2.1 clsA (wl G M) H → va_S (inW G) s.heap H locs → lv_has ls 2 [(0, .ref (G.1 + h)), (1, .int v1)] → W p l e ({ frames := 0, cells := 0, slots := 0, locals := 0 } : Room) s m ([.ref (G.1 + h), .int a1] : List Value).toArray below meth c H locs 0 0 (MQ below (Pq G (Qi Q)) ([.ref (G.1 + h), .int a1] : List Value).toArray s 0 0 (inW G)) (F0 m 20 ls []) := by
    intro v1 M H locs ls  hw hP hS hl
    unfold b_X9_refuse_20 at hw
    refine lv_ldcw (v := (-1000000000)) hx hb hown (ht _ wk_RX9_297) dX9_refuse_20 ?_
    refine lv_iload_n hx hb dX9_refuse_23 rfl (lv_at hl 1 rfl) ?_
    refine lv_isub hx hb dX9_refuse_24 ?_
    exact W.iret hx hb hr (mw_end hP hSt hTb hS ⟨_, rfl, hw⟩) hS.2.2 dX9_refuse_25
  refine lv_iload_n hx hb dX9_refuse_0 rfl (lv_at hl 1 rfl) ?_
  refine lv_iconst (v := 1) hx hb dX9_refuse_1 (by decide) ?_
  refine lv_icmp_lt (tgt := 20) hx hb dX9_refuse_2 (by decide) (fun c_1 => ?_) (fun c_1 => ?_)
  · have hw := hw.1 c_1
    exact J_20 a1 M _ _ _ hw hP hS (lv_sub hl [0, 1] rfl)
  · have hw := hw.2 c_1
    refine lv_iload_n hx hb dX9_refuse_5 rfl (lv_at hl 1 rfl) ?_
    refine lv_iconst (v := 5) hx hb dX9_refuse_6 (by decide) ?_
    refine lv_icmp_gt (tgt := 20) hx hb dX9_refuse_7 (by decide) (fun c_2 => ?_) (fun c_2 => ?_)
    · have hw := hw.1 c_2
      exact J_20 a1 M _ _ _ hw hP hS (lv_sub hl [0, 1] rfl)
    · have hw := hw.2 c_2
      refine lv_aload_n hx hb dX9_refuse_10 rfl (lv_at hl 0 rfl) ?_
      refine mw_get (ci := 9) (v := .ref (G.1 + (h + 107))) (C := RX9) (T := TX9) (N := 8) hx hb ht inX9 hown hSt hP kh (by decide) (mk9 kh) rfl 6 (by decide) (ht _ wf_RX9_46) rfl rfl dX9_refuse_11 ?_
      refine lv_iload_n hx hb dX9_refuse_14 rfl (lv_at hl 1 rfl) ?_
      refine lv_dup2_11 hx hb dX9_refuse_15 rfl rfl ?_
      obtain ⟨c_3, hw⟩ := hw
      refine mw_iald hx hb hSt hP (ks9_6 kh) (by rw [(ln9_6 kh)]; exact c_3) dX9_refuse_16 ?_
      refine lv_iconst (v := 1) hx hb dX9_refuse_17 (by decide) ?_
      refine lv_iadd hx hb dX9_refuse_18 ?_
      obtain ⟨c_4, hw⟩ := hw
      refine mw_iast hx hb hSt hP hS (ks9_6 kh) (by rw [(ln9_6 kh)]; exact c_4) dX9_refuse_19 (fun M_5 H locs eM_5 hP hS => ?_)
      have hw := hw M_5 eM_5
      exact J_20 a1 M_5 _ _ _ hw hP hS (lv_sub hl [0, 1] rfl)
def b_X9_snow_17 (h : Nat) (Q : Int32 → Mem → Prop) (M : Mem) : Prop :=
  wp_X9_refuse h 1 M (fun r_2 M_1 => Q r_2 M_1)
def wp_X9_snow (h : Nat) (a1 : Int32) (a2 : Int32) (M : Mem) (Q : Int32 → Mem → Prop) : Prop :=
  kdT h = 9 ∧ (wp_X9_isCell a1 M (fun r_4 M_3 => (r_4 = 0 → b_X9_snow_17 h Q M_3) ∧ (¬ r_4 = 0 → wp_X9_isWithin a2 999 M_3 (fun r_7 M_6 => (¬ r_7 = 0 → vp_in a1 10 ∧ (∀ x_10, x_10 = M_6 (h + 1 + 1 + 11) a1.toNatClampNeg → vp_in a1 10 ∧ ∀ M_12, M_12 = mu M_6 (h + 1 + 1 + 11) a1.toNatClampNeg a2 → Q x_10 M_12)) ∧ (r_7 = 0 → b_X9_snow_17 h Q M_6)))))
set_option maxHeartbeats 4000000 in
set_option maxRecDepth 100000 in
theorem so_X9_snow (l : Launch) (G : Gm) (h : Nat) (a1 : Int32) (a2 : Int32) (M : Mem) (Q : Int32 → Mem → Prop) (hw : wp_X9_snow h a1 a2 M Q) : Ct l G yX9_snow cX9_snow 4 (some .int) ({ frames := 2, cells := 0, slots := 0, locals := 41 } : Room) [.ref (G.1 + h), .int a1, .int a2] M (Qi Q) := by
  unfold wp_X9_snow at hw
  obtain ⟨kh, hw⟩ := hw
  refine ct_of (by decide) (Nat.le_of_ble_eq_true rfl) ?_
  intro p e s m below meth c E_ ls H hl hP hS
  obtain ⟨hx, hb, hml, hown, hts, ht, hr, hlocks, hSt, hTb⟩ := E_
  have hl : lv_has ls 4 [(0, .ref (G.1 + h)), (1, .int a1), (2, .int a2)] := hl
  have J_17 : ∀  (M : Mem) (H : Heap) (locs : List Loc) (ls : Array Slot), b_X9_snow_17 h Q M → va_P G.2.1 clsA (wl G M) H → va_S (inW G) s.heap H locs → lv_has ls 4 [(0, .ref (G.1 + h))] → W p l e ({ frames := 2, cells := 0, slots := 0, locals := 41 } : Room) s m ([.ref (G.1 + h), .int a1, .int a2] : List Value).toArray below meth c H locs 0 0 (MQ below (Pq G (Qi Q)) ([.ref (G.1 + h), .int a1, .int a2] : List Value).toArray s 0 0 (inW G)) (F0 m 17 ls []) := by
    intro  M H locs ls  hw hP hS hl
    unfold b_X9_snow_17 at hw
    refine lv_aload_n hx hb dX9_snow_17 rfl (lv_at hl 0 rfl) ?_
    refine lv_iconst (v := 1) hx hb dX9_snow_18 (by decide) ?_
    refine mw_V (As := [.int 1]) (rest := []) (T := TX9) (N := 8) (n := 1) ⟨hx, hb, hml, hown, hts⟩ (so_X9_refuse l G h 1 M _ hw) wm_RX9_59 wi_yX9_refuse wv_yX9_refuse wn_RX9 wc_yX9_refuse (by decide) ⟨Nat.le_of_ble_eq_true rfl, Nat.le_of_ble_eq_true rfl⟩ ⟨rfl, rfl⟩ kh (by decide) (mk9 kh) rfl hSt hTb hP hS rfl hl.1 rfl (Nat.le_of_ble_eq_true rfl) dX9_snow_19 ⟨Nat.le_refl 0, Nat.le_refl 0⟩ (fun rr_ M_1 H locs hq hP hS => ?_)
    obtain ⟨r_2, rfl, hw⟩ := hq
    exact W.iret hx hb hr (mw_end hP hSt hTb hS ⟨_, rfl, hw⟩) hS.2.2 dX9_snow_22
  refine lv_iload_n hx hb dX9_snow_0 rfl (lv_at hl 1 rfl) ?_
  refine mw_Sx (As := [.int a1]) (rest := []) (n := 1) ⟨hx, hb, hml, hown, hts⟩ (so_X9_isCell l G a1 M _ hw) wm_RX9_51 wt_yX9_isCell wn_RX9 wc_yX9_isCell (by decide) ⟨Nat.le_of_ble_eq_true rfl, Nat.le_of_ble_eq_true rfl⟩ ⟨rfl, rfl⟩ hSt hTb hP hS rfl hl.1 rfl (Nat.le_of_ble_eq_true rfl) dX9_snow_1 ⟨Nat.le_refl 0, Nat.le_refl 0⟩ (fun rr_ M_3 H locs hq hP hS => ?_)
  obtain ⟨r_4, rfl, hw⟩ := hq
  refine lv_if_eq (tgt := 17) hx hb dX9_snow_4 (by decide) (fun c_5 => ?_) (fun c_5 => ?_)
  · have hw := hw.1 c_5
    exact J_17 M_3 _ _ _ hw hP hS (lv_sub hl [0] rfl)
  · have hw := hw.2 c_5
    refine lv_iload_n hx hb dX9_snow_7 rfl (lv_at hl 2 rfl) ?_
    refine lv_sipush (v := 999) hx hb dX9_snow_8 (by decide) ?_
    refine mw_Sx (As := [.int a2, .int 999]) (rest := []) (n := 2) ⟨hx, hb, hml, hown, hts⟩ (so_X9_isWithin l G a2 999 M_3 _ hw) wm_RX9_55 wt_yX9_isWithin wn_RX9 wc_yX9_isWithin (by decide) ⟨Nat.le_of_ble_eq_true rfl, Nat.le_of_ble_eq_true rfl⟩ ⟨rfl, rfl⟩ hSt hTb hP hS rfl hl.1 rfl (Nat.le_of_ble_eq_true rfl) dX9_snow_11 ⟨Nat.le_refl 0, Nat.le_refl 0⟩ (fun rr_ M_6 H locs hq hP hS => ?_)
    obtain ⟨r_7, rfl, hw⟩ := hq
    refine lv_if_ne (tgt := 23) hx hb dX9_snow_14 (by decide) (fun c_8 => ?_) (fun c_8 => ?_)
    · have hw := hw.1 c_8
      refine lv_aload_n hx hb dX9_snow_23 rfl (lv_at hl 0 rfl) ?_
      refine mw_get (ci := 9) (v := .ref (G.1 + (h + 1))) (C := RX9) (T := TX9) (N := 8) hx hb ht inX9 hown hSt hP kh (by decide) (mk9 kh) rfl 0 (by decide) (ht _ wf_RX9_10) rfl rfl dX9_snow_24 ?_
      refine mw_get (ci := 8) (v := .ref (G.1 + (h + 1 + 1))) (C := RX8) (T := TX8) (N := 4) hx hb ht inX8 hown hSt hP (ks9_0 kh) (by decide) (mk8 (ks9_0 kh)) rfl 0 (by decide) (ht _ wf_RX9_63) rfl rfl dX9_snow_27 ?_
      refine mw_get (ci := 1) (v := .ref (G.1 + (h + 1 + 1 + 11))) (C := RX1) (T := TX1) (N := 9) hx hb ht inX1 hown hSt hP (ks8_0 (ks9_0 kh)) (by decide) (mk1 (ks8_0 (ks9_0 kh))) rfl 2 (by decide) (ht _ wf_RX9_66) rfl rfl dX9_snow_30 ?_
      refine lv_iload_n hx hb dX9_snow_33 rfl (lv_at hl 1 rfl) ?_
      obtain ⟨c_9, hw⟩ := hw
      refine mw_iald hx hb hSt hP (ks1_2 (ks8_0 (ks9_0 kh))) (by rw [(ln1_2 (ks8_0 (ks9_0 kh)))]; exact c_9) dX9_snow_34 ?_
      refine lv_topi (fun x_10 ex_10 => ?_)
      have hw := hw x_10 ex_10
      refine lv_istore_n (lv' := [(3, .int x_10), (0, .ref (G.1 + h)), (1, .int a1), (2, .int a2)]) hx hb dX9_snow_35 rfl hl (by decide) rfl (fun ls hl => ?_)
      refine lv_aload_n hx hb dX9_snow_36 rfl (lv_at hl 1 rfl) ?_
      refine mw_get (ci := 9) (v := .ref (G.1 + (h + 1))) (C := RX9) (T := TX9) (N := 8) hx hb ht inX9 hown hSt hP kh (by decide) (mk9 kh) rfl 0 (by decide) (ht _ wf_RX9_10) rfl rfl dX9_snow_37 ?_
      refine mw_get (ci := 8) (v := .ref (G.1 + (h + 1 + 1))) (C := RX8) (T := TX8) (N := 4) hx hb ht inX8 hown hSt hP (ks9_0 kh) (by decide) (mk8 (ks9_0 kh)) rfl 0 (by decide) (ht _ wf_RX9_63) rfl rfl dX9_snow_40 ?_
      refine mw_get (ci := 1) (v := .ref (G.1 + (h + 1 + 1 + 11))) (C := RX1) (T := TX1) (N := 9) hx hb ht inX1 hown hSt hP (ks8_0 (ks9_0 kh)) (by decide) (mk1 (ks8_0 (ks9_0 kh))) rfl 2 (by decide) (ht _ wf_RX9_66) rfl rfl dX9_snow_43 ?_
      refine lv_iload_n hx hb dX9_snow_46 rfl (lv_at hl 2 rfl) ?_
      refine lv_iload_n hx hb dX9_snow_47 rfl (lv_at hl 3 rfl) ?_
      obtain ⟨c_11, hw⟩ := hw
      refine mw_iast hx hb hSt hP hS (ks1_2 (ks8_0 (ks9_0 kh))) (by rw [(ln1_2 (ks8_0 (ks9_0 kh)))]; exact c_11) dX9_snow_48 (fun M_12 H locs eM_12 hP hS => ?_)
      have hw := hw M_12 eM_12
      refine lv_iload_n hx hb dX9_snow_49 rfl (lv_at hl 0 rfl) ?_
      exact W.iret hx hb hr (mw_end hP hSt hTb hS ⟨_, rfl, hw⟩) hS.2.2 dX9_snow_50
    · have hw := hw.2 c_8
      exact J_17 M_6 _ _ _ hw hP hS (lv_sub hl [0] rfl)
def wp_X9_ofCell (h : Nat) (a1 : Int32) (a2 : Int32) (M : Mem) (Q : Int32 → Mem → Prop) : Prop :=
  kdT h = 9 ∧ (wp_X9_isCell a1 M (fun r_2 M_1 => (¬ r_2 = 0 → (a2 = 0 → vp_in a1 10 ∧ (Q (M_1 (h + 1 + 1 + 11) a1.toNatClampNeg) M_1)) ∧ (a2 = 1 → wp_X1_seekersAt (h + 1 + 1) a1 M_1 (fun r_8 M_7 => Q r_8 M_7)) ∧ (a2 = 2 → wp_X1_sheepIn (h + 1 + 1) a1 M_1 (fun r_11 M_10 => Q r_11 M_10)) ∧ (¬ a2 = 0 → ¬ a2 = 1 → ¬ a2 = 2 → wp_X9_refuse h 1 M_1 (fun r_13 M_12 => Q r_13 M_12))) ∧ (r_2 = 0 → wp_X9_refuse h 1 M_1 (fun r_15 M_14 => Q r_15 M_14))))
set_option maxHeartbeats 4000000 in
set_option maxRecDepth 100000 in
theorem so_X9_ofCell (l : Launch) (G : Gm) (h : Nat) (a1 : Int32) (a2 : Int32) (M : Mem) (Q : Int32 → Mem → Prop) (hw : wp_X9_ofCell h a1 a2 M Q) : Ct l G yX9_ofCell cX9_ofCell 3 (some .int) ({ frames := 2, cells := 0, slots := 0, locals := 41 } : Room) [.ref (G.1 + h), .int a1, .int a2] M (Qi Q) := by
  unfold wp_X9_ofCell at hw
  obtain ⟨kh, hw⟩ := hw
  refine ct_of (by decide) (Nat.le_of_ble_eq_true rfl) ?_
  intro p e s m below meth c E_ ls H hl hP hS
  obtain ⟨hx, hb, hml, hown, hts, ht, hr, hlocks, hSt, hTb⟩ := E_
  have hl : lv_has ls 3 [(0, .ref (G.1 + h)), (1, .int a1), (2, .int a2)] := hl
  refine lv_iload_n hx hb dX9_ofCell_0 rfl (lv_at hl 1 rfl) ?_
  refine mw_Sx (As := [.int a1]) (rest := []) (n := 1) ⟨hx, hb, hml, hown, hts⟩ (so_X9_isCell l G a1 M _ hw) wm_RX9_51 wt_yX9_isCell wn_RX9 wc_yX9_isCell (by decide) ⟨Nat.le_of_ble_eq_true rfl, Nat.le_of_ble_eq_true rfl⟩ ⟨rfl, rfl⟩ hSt hTb hP hS rfl hl.1 rfl (Nat.le_of_ble_eq_true rfl) dX9_ofCell_1 ⟨Nat.le_refl 0, Nat.le_refl 0⟩ (fun rr_ M_1 H locs hq hP hS => ?_)
  obtain ⟨r_2, rfl, hw⟩ := hq
  refine lv_if_ne (tgt := 13) hx hb dX9_ofCell_4 (by decide) (fun c_3 => ?_) (fun c_3 => ?_)
  · have hw := hw.1 c_3
    refine lv_iload_n hx hb dX9_ofCell_13 rfl (lv_at hl 2 rfl) ?_
    by_cases c_4 : a2 = 0
    · have hw := hw.1 c_4
      refine mw_tcase (tgt := 40) (off := 26) hx hb dX9_ofCell_14 c_4 (by decide) ?_
      refine lv_aload_n hx hb dX9_ofCell_40 rfl (lv_at hl 0 rfl) ?_
      refine mw_get (ci := 9) (v := .ref (G.1 + (h + 1))) (C := RX9) (T := TX9) (N := 8) hx hb ht inX9 hown hSt hP kh (by decide) (mk9 kh) rfl 0 (by decide) (ht _ wf_RX9_10) rfl rfl dX9_ofCell_41 ?_
      refine mw_get (ci := 8) (v := .ref (G.1 + (h + 1 + 1))) (C := RX8) (T := TX8) (N := 4) hx hb ht inX8 hown hSt hP (ks9_0 kh) (by decide) (mk8 (ks9_0 kh)) rfl 0 (by decide) (ht _ wf_RX9_63) rfl rfl dX9_ofCell_44 ?_
      refine mw_get (ci := 1) (v := .ref (G.1 + (h + 1 + 1 + 11))) (C := RX1) (T := TX1) (N := 9) hx hb ht inX1 hown hSt hP (ks8_0 (ks9_0 kh)) (by decide) (mk1 (ks8_0 (ks9_0 kh))) rfl 2 (by decide) (ht _ wf_RX9_66) rfl rfl dX9_ofCell_47 ?_
      refine lv_iload_n hx hb dX9_ofCell_50 rfl (lv_at hl 1 rfl) ?_
      obtain ⟨c_5, hw⟩ := hw
      refine mw_iald hx hb hSt hP (ks1_2 (ks8_0 (ks9_0 kh))) (by rw [(ln1_2 (ks8_0 (ks9_0 kh)))]; exact c_5) dX9_ofCell_51 ?_
      exact W.iret hx hb hr (mw_end hP hSt hTb hS ⟨_, rfl, hw⟩) hS.2.2 dX9_ofCell_52
    by_cases c_6 : a2 = 1
    · have hw := hw.2.1 c_6
      refine mw_tcase (tgt := 53) (off := 39) hx hb dX9_ofCell_14 c_6 (by decide) ?_
      refine lv_aload_n hx hb dX9_ofCell_53 rfl (lv_at hl 0 rfl) ?_
      refine mw_get (ci := 9) (v := .ref (G.1 + (h + 1))) (C := RX9) (T := TX9) (N := 8) hx hb ht inX9 hown hSt hP kh (by decide) (mk9 kh) rfl 0 (by decide) (ht _ wf_RX9_10) rfl rfl dX9_ofCell_54 ?_
      refine mw_get (ci := 8) (v := .ref (G.1 + (h + 1 + 1))) (C := RX8) (T := TX8) (N := 4) hx hb ht inX8 hown hSt hP (ks9_0 kh) (by decide) (mk8 (ks9_0 kh)) rfl 0 (by decide) (ht _ wf_RX9_63) rfl rfl dX9_ofCell_57 ?_
      refine lv_iload_n hx hb dX9_ofCell_60 rfl (lv_at hl 1 rfl) ?_
      refine mw_V (As := [.int a1]) (rest := []) (T := TX1) (N := 9) (n := 1) ⟨hx, hb, hml, hown, hts⟩ (so_X1_seekersAt l G (h + 1 + 1) a1 M_1 _ hw) wm_RX9_69 wi_yX1_seekersAt wv_yX1_seekersAt wn_RX1 wc_yX1_seekersAt (by decide) ⟨Nat.le_of_ble_eq_true rfl, Nat.le_of_ble_eq_true rfl⟩ ⟨rfl, rfl⟩ (ks8_0 (ks9_0 kh)) (by decide) (mk1 (ks8_0 (ks9_0 kh))) rfl hSt hTb hP hS rfl hl.1 rfl (Nat.le_of_ble_eq_true rfl) dX9_ofCell_61 ⟨Nat.le_refl 0, Nat.le_refl 0⟩ (fun rr_ M_7 H locs hq hP hS => ?_)
      obtain ⟨r_8, rfl, hw⟩ := hq
      exact W.iret hx hb hr (mw_end hP hSt hTb hS ⟨_, rfl, hw⟩) hS.2.2 dX9_ofCell_64
    by_cases c_9 : a2 = 2
    · have hw := hw.2.2.1 c_9
      refine mw_tcase (tgt := 65) (off := 51) hx hb dX9_ofCell_14 c_9 (by decide) ?_
      refine lv_aload_n hx hb dX9_ofCell_65 rfl (lv_at hl 0 rfl) ?_
      refine mw_get (ci := 9) (v := .ref (G.1 + (h + 1))) (C := RX9) (T := TX9) (N := 8) hx hb ht inX9 hown hSt hP kh (by decide) (mk9 kh) rfl 0 (by decide) (ht _ wf_RX9_10) rfl rfl dX9_ofCell_66 ?_
      refine mw_get (ci := 8) (v := .ref (G.1 + (h + 1 + 1))) (C := RX8) (T := TX8) (N := 4) hx hb ht inX8 hown hSt hP (ks9_0 kh) (by decide) (mk8 (ks9_0 kh)) rfl 0 (by decide) (ht _ wf_RX9_63) rfl rfl dX9_ofCell_69 ?_
      refine lv_iload_n hx hb dX9_ofCell_72 rfl (lv_at hl 1 rfl) ?_
      refine mw_V (As := [.int a1]) (rest := []) (T := TX1) (N := 9) (n := 1) ⟨hx, hb, hml, hown, hts⟩ (so_X1_sheepIn l G (h + 1 + 1) a1 M_1 _ hw) wm_RX9_72 wi_yX1_sheepIn wv_yX1_sheepIn wn_RX1 wc_yX1_sheepIn (by decide) ⟨Nat.le_of_ble_eq_true rfl, Nat.le_of_ble_eq_true rfl⟩ ⟨rfl, rfl⟩ (ks8_0 (ks9_0 kh)) (by decide) (mk1 (ks8_0 (ks9_0 kh))) rfl hSt hTb hP hS rfl hl.1 rfl (Nat.le_of_ble_eq_true rfl) dX9_ofCell_73 ⟨Nat.le_refl 0, Nat.le_refl 0⟩ (fun rr_ M_10 H locs hq hP hS => ?_)
      obtain ⟨r_11, rfl, hw⟩ := hq
      exact W.iret hx hb hr (mw_end hP hSt hTb hS ⟨_, rfl, hw⟩) hS.2.2 dX9_ofCell_76
    have hw := hw.2.2.2 c_4 c_6 c_9
    refine mw_tdef (keys := [0, 1, 2]) (tgt := 77) hx hb dX9_ofCell_14 (List.forall_mem_cons.mpr ⟨c_4, (List.forall_mem_cons.mpr ⟨c_6, (List.forall_mem_cons.mpr ⟨c_9, (fun _ h_ => absurd h_ List.not_mem_nil)⟩)⟩)⟩) (by decide) (by decide) ?_
    refine lv_aload_n hx hb dX9_ofCell_77 rfl (lv_at hl 0 rfl) ?_
    refine lv_iconst (v := 1) hx hb dX9_ofCell_78 (by decide) ?_
    refine mw_V (As := [.int 1]) (rest := []) (T := TX9) (N := 8) (n := 1) ⟨hx, hb, hml, hown, hts⟩ (so_X9_refuse l G h 1 M_1 _ hw) wm_RX9_59 wi_yX9_refuse wv_yX9_refuse wn_RX9 wc_yX9_refuse (by decide) ⟨Nat.le_of_ble_eq_true rfl, Nat.le_of_ble_eq_true rfl⟩ ⟨rfl, rfl⟩ kh (by decide) (mk9 kh) rfl hSt hTb hP hS rfl hl.1 rfl (Nat.le_of_ble_eq_true rfl) dX9_ofCell_79 ⟨Nat.le_refl 0, Nat.le_refl 0⟩ (fun rr_ M_12 H locs hq hP hS => ?_)
    obtain ⟨r_13, rfl, hw⟩ := hq
    exact W.iret hx hb hr (mw_end hP hSt hTb hS ⟨_, rfl, hw⟩) hS.2.2 dX9_ofCell_82
  · have hw := hw.2 c_3
    refine lv_aload_n hx hb dX9_ofCell_7 rfl (lv_at hl 0 rfl) ?_
    refine lv_iconst (v := 1) hx hb dX9_ofCell_8 (by decide) ?_
    refine mw_V (As := [.int 1]) (rest := []) (T := TX9) (N := 8) (n := 1) ⟨hx, hb, hml, hown, hts⟩ (so_X9_refuse l G h 1 M_1 _ hw) wm_RX9_59 wi_yX9_refuse wv_yX9_refuse wn_RX9 wc_yX9_refuse (by decide) ⟨Nat.le_of_ble_eq_true rfl, Nat.le_of_ble_eq_true rfl⟩ ⟨rfl, rfl⟩ kh (by decide) (mk9 kh) rfl hSt hTb hP hS rfl hl.1 rfl (Nat.le_of_ble_eq_true rfl) dX9_ofCell_9 ⟨Nat.le_refl 0, Nat.le_refl 0⟩ (fun rr_ M_14 H locs hq hP hS => ?_)
    obtain ⟨r_15, rfl, hw⟩ := hq
    exact W.iret hx hb hr (mw_end hP hSt hTb hS ⟨_, rfl, hw⟩) hS.2.2 dX9_ofCell_12
def b_X9_seeker_16 (h : Nat) (Q : Int32 → Mem → Prop) (M : Mem) : Prop :=
  wp_X9_refuse h 1 M (fun r_2 M_1 => Q r_2 M_1)
def wp_X9_seeker (h : Nat) (a1 : Int32) (a2 : Int32) (M : Mem) (Q : Int32 → Mem → Prop) : Prop :=
  kdT h = 9 ∧ (wp_X9_isCell a1 M (fun r_4 M_3 => (r_4 = 0 → b_X9_seeker_16 h Q M_3) ∧ (¬ r_4 = 0 → wp_X9_isWithin a2 99 M_3 (fun r_7 M_6 => (¬ r_7 = 0 → ∀ x_9, x_9 = M_6 (h + 1 + 1) 6 → (x_9 < 6 → vp_in x_9 6 ∧ (∀ M_12, M_12 = mu M_6 (h + 1 + 1 + 12 + 4 + x_9.toNatClampNeg) 0 a1 → vp_in x_9 6 ∧ (∀ M_14, M_14 = mu M_12 (h + 1 + 1 + 12 + 4 + x_9.toNatClampNeg) 1 a2 → ∀ M_15, M_15 = mu M_14 (h + 1 + 1) 6 (x_9 + 1) → Q x_9 M_15))) ∧ (¬ x_9 < 6 → wp_X9_refuse h 4 M_6 (fun r_17 M_16 => Q r_17 M_16))) ∧ (r_7 = 0 → b_X9_seeker_16 h Q M_6)))))
set_option maxHeartbeats 4000000 in
set_option maxRecDepth 100000 in
theorem so_X9_seeker (l : Launch) (G : Gm) (h : Nat) (a1 : Int32) (a2 : Int32) (M : Mem) (Q : Int32 → Mem → Prop) (hw : wp_X9_seeker h a1 a2 M Q) : Ct l G yX9_seeker cX9_seeker 4 (some .int) ({ frames := 2, cells := 0, slots := 0, locals := 41 } : Room) [.ref (G.1 + h), .int a1, .int a2] M (Qi Q) := by
  unfold wp_X9_seeker at hw
  obtain ⟨kh, hw⟩ := hw
  refine ct_of (by decide) (Nat.le_of_ble_eq_true rfl) ?_
  intro p e s m below meth c E_ ls H hl hP hS
  obtain ⟨hx, hb, hml, hown, hts, ht, hr, hlocks, hSt, hTb⟩ := E_
  have hl : lv_has ls 4 [(0, .ref (G.1 + h)), (1, .int a1), (2, .int a2)] := hl
  have J_16 : ∀  (M : Mem) (H : Heap) (locs : List Loc) (ls : Array Slot), b_X9_seeker_16 h Q M → va_P G.2.1 clsA (wl G M) H → va_S (inW G) s.heap H locs → lv_has ls 4 [(0, .ref (G.1 + h))] → W p l e ({ frames := 2, cells := 0, slots := 0, locals := 41 } : Room) s m ([.ref (G.1 + h), .int a1, .int a2] : List Value).toArray below meth c H locs 0 0 (MQ below (Pq G (Qi Q)) ([.ref (G.1 + h), .int a1, .int a2] : List Value).toArray s 0 0 (inW G)) (F0 m 16 ls []) := by
    intro  M H locs ls  hw hP hS hl
    unfold b_X9_seeker_16 at hw
    refine lv_aload_n hx hb dX9_seeker_16 rfl (lv_at hl 0 rfl) ?_
    refine lv_iconst (v := 1) hx hb dX9_seeker_17 (by decide) ?_
    refine mw_V (As := [.int 1]) (rest := []) (T := TX9) (N := 8) (n := 1) ⟨hx, hb, hml, hown, hts⟩ (so_X9_refuse l G h 1 M _ hw) wm_RX9_59 wi_yX9_refuse wv_yX9_refuse wn_RX9 wc_yX9_refuse (by decide) ⟨Nat.le_of_ble_eq_true rfl, Nat.le_of_ble_eq_true rfl⟩ ⟨rfl, rfl⟩ kh (by decide) (mk9 kh) rfl hSt hTb hP hS rfl hl.1 rfl (Nat.le_of_ble_eq_true rfl) dX9_seeker_18 ⟨Nat.le_refl 0, Nat.le_refl 0⟩ (fun rr_ M_1 H locs hq hP hS => ?_)
    obtain ⟨r_2, rfl, hw⟩ := hq
    exact W.iret hx hb hr (mw_end hP hSt hTb hS ⟨_, rfl, hw⟩) hS.2.2 dX9_seeker_21
  refine lv_iload_n hx hb dX9_seeker_0 rfl (lv_at hl 1 rfl) ?_
  refine mw_Sx (As := [.int a1]) (rest := []) (n := 1) ⟨hx, hb, hml, hown, hts⟩ (so_X9_isCell l G a1 M _ hw) wm_RX9_51 wt_yX9_isCell wn_RX9 wc_yX9_isCell (by decide) ⟨Nat.le_of_ble_eq_true rfl, Nat.le_of_ble_eq_true rfl⟩ ⟨rfl, rfl⟩ hSt hTb hP hS rfl hl.1 rfl (Nat.le_of_ble_eq_true rfl) dX9_seeker_1 ⟨Nat.le_refl 0, Nat.le_refl 0⟩ (fun rr_ M_3 H locs hq hP hS => ?_)
  obtain ⟨r_4, rfl, hw⟩ := hq
  refine lv_if_eq (tgt := 16) hx hb dX9_seeker_4 (by decide) (fun c_5 => ?_) (fun c_5 => ?_)
  · have hw := hw.1 c_5
    exact J_16 M_3 _ _ _ hw hP hS (lv_sub hl [0] rfl)
  · have hw := hw.2 c_5
    refine lv_iload_n hx hb dX9_seeker_7 rfl (lv_at hl 2 rfl) ?_
    refine lv_bipush (v := 99) hx hb dX9_seeker_8 (by decide) ?_
    refine mw_Sx (As := [.int a2, .int 99]) (rest := []) (n := 2) ⟨hx, hb, hml, hown, hts⟩ (so_X9_isWithin l G a2 99 M_3 _ hw) wm_RX9_55 wt_yX9_isWithin wn_RX9 wc_yX9_isWithin (by decide) ⟨Nat.le_of_ble_eq_true rfl, Nat.le_of_ble_eq_true rfl⟩ ⟨rfl, rfl⟩ hSt hTb hP hS rfl hl.1 rfl (Nat.le_of_ble_eq_true rfl) dX9_seeker_10 ⟨Nat.le_refl 0, Nat.le_refl 0⟩ (fun rr_ M_6 H locs hq hP hS => ?_)
    obtain ⟨r_7, rfl, hw⟩ := hq
    refine lv_if_ne (tgt := 22) hx hb dX9_seeker_13 (by decide) (fun c_8 => ?_) (fun c_8 => ?_)
    · have hw := hw.1 c_8
      refine lv_aload_n hx hb dX9_seeker_22 rfl (lv_at hl 0 rfl) ?_
      refine mw_get (ci := 9) (v := .ref (G.1 + (h + 1))) (C := RX9) (T := TX9) (N := 8) hx hb ht inX9 hown hSt hP kh (by decide) (mk9 kh) rfl 0 (by decide) (ht _ wf_RX9_10) rfl rfl dX9_seeker_23 ?_
      refine mw_get (ci := 8) (v := .ref (G.1 + (h + 1 + 1))) (C := RX8) (T := TX8) (N := 4) hx hb ht inX8 hown hSt hP (ks9_0 kh) (by decide) (mk8 (ks9_0 kh)) rfl 0 (by decide) (ht _ wf_RX9_63) rfl rfl dX9_seeker_26 ?_
      refine mw_get (ci := 1) (v := .int (M_6 (h + 1 + 1) 6)) (C := RX1) (T := TX1) (N := 9) hx hb ht inX1 hown hSt hP (ks8_0 (ks9_0 kh)) (by decide) (mk1 (ks8_0 (ks9_0 kh))) rfl 6 (by decide) (ht _ wf_RX9_75) rfl rfl dX9_seeker_29 ?_
      refine lv_topi (fun x_9 ex_9 => ?_)
      have hw := hw x_9 ex_9
      refine lv_istore_n (lv' := [(3, .int x_9), (0, .ref (G.1 + h)), (1, .int a1), (2, .int a2)]) hx hb dX9_seeker_32 rfl hl (by decide) rfl (fun ls hl => ?_)
      refine lv_iload_n hx hb dX9_seeker_33 rfl (lv_at hl 0 rfl) ?_
      refine lv_bipush (v := 6) hx hb dX9_seeker_34 (by decide) ?_
      refine lv_icmp_lt (tgt := 45) hx hb dX9_seeker_36 (by decide) (fun c_10 => ?_) (fun c_10 => ?_)
      · have hw := hw.1 c_10
        refine lv_aload_n hx hb dX9_seeker_45 rfl (lv_at hl 1 rfl) ?_
        refine mw_get (ci := 9) (v := .ref (G.1 + (h + 1))) (C := RX9) (T := TX9) (N := 8) hx hb ht inX9 hown hSt hP kh (by decide) (mk9 kh) rfl 0 (by decide) (ht _ wf_RX9_10) rfl rfl dX9_seeker_46 ?_
        refine mw_get (ci := 8) (v := .ref (G.1 + (h + 1 + 1))) (C := RX8) (T := TX8) (N := 4) hx hb ht inX8 hown hSt hP (ks9_0 kh) (by decide) (mk8 (ks9_0 kh)) rfl 0 (by decide) (ht _ wf_RX9_63) rfl rfl dX9_seeker_49 ?_
        refine mw_get (ci := 1) (v := .ref (G.1 + (h + 1 + 1 + 12))) (C := RX1) (T := TX1) (N := 9) hx hb ht inX1 hown hSt hP (ks8_0 (ks9_0 kh)) (by decide) (mk1 (ks8_0 (ks9_0 kh))) rfl 3 (by decide) (ht _ wf_RX9_79) rfl rfl dX9_seeker_52 ?_
        refine lv_iload_n hx hb dX9_seeker_55 rfl (lv_at hl 0 rfl) ?_
        obtain ⟨c_11, hw⟩ := hw
        refine mw_aald12 hx hb hSt hP (ks1_3 (ks8_0 (ks9_0 kh))) (by rw [(ln1_3 (ks8_0 (ks9_0 kh)))]; exact c_11) dX9_seeker_56 ?_
        refine lv_iload_n hx hb dX9_seeker_57 rfl (lv_at hl 2 rfl) ?_
        refine mw_put (ci := 4) (v := a1) (ty := .int) (C := RX4) (T := TX4) (N := 2) hx hb ht inX4 tyX4 tyX4_ok nmX4 hown hSt hP hS (ke12 (ks1_3 (ks8_0 (ks9_0 kh))) (vp_lt (by rw [(ln1_3 (ks8_0 (ks9_0 kh)))]; exact c_11))) (by decide) (mk4 (ke12 (ks1_3 (ks8_0 (ks9_0 kh))) (vp_lt (by rw [(ln1_3 (ks8_0 (ks9_0 kh)))]; exact c_11)))) rfl 0 (by decide) (ht _ wf_RX9_83) rfl rfl (by decide +kernel) (vp_nar_int _) rfl (Nat.le_of_ble_eq_true rfl) (by rw [mk4 (ke12 (ks1_3 (ks8_0 (ks9_0 kh))) (vp_lt (by rw [(ln1_3 (ks8_0 (ks9_0 kh)))]; exact c_11)))]; simp [mu]) dX9_seeker_58 (fun M_12 H locs eM_12 hP hS => ?_)
        have hw := hw M_12 eM_12
        refine lv_aload_n hx hb dX9_seeker_61 rfl (lv_at hl 1 rfl) ?_
        refine mw_get (ci := 9) (v := .ref (G.1 + (h + 1))) (C := RX9) (T := TX9) (N := 8) hx hb ht inX9 hown hSt hP kh (by decide) (mk9 kh) rfl 0 (by decide) (ht _ wf_RX9_10) rfl rfl dX9_seeker_62 ?_
        refine mw_get (ci := 8) (v := .ref (G.1 + (h + 1 + 1))) (C := RX8) (T := TX8) (N := 4) hx hb ht inX8 hown hSt hP (ks9_0 kh) (by decide) (mk8 (ks9_0 kh)) rfl 0 (by decide) (ht _ wf_RX9_63) rfl rfl dX9_seeker_65 ?_
        refine mw_get (ci := 1) (v := .ref (G.1 + (h + 1 + 1 + 12))) (C := RX1) (T := TX1) (N := 9) hx hb ht inX1 hown hSt hP (ks8_0 (ks9_0 kh)) (by decide) (mk1 (ks8_0 (ks9_0 kh))) rfl 3 (by decide) (ht _ wf_RX9_79) rfl rfl dX9_seeker_68 ?_
        refine lv_iload_n hx hb dX9_seeker_71 rfl (lv_at hl 0 rfl) ?_
        obtain ⟨c_13, hw⟩ := hw
        refine mw_aald12 hx hb hSt hP (ks1_3 (ks8_0 (ks9_0 kh))) (by rw [(ln1_3 (ks8_0 (ks9_0 kh)))]; exact c_13) dX9_seeker_72 ?_
        refine lv_iload_n hx hb dX9_seeker_73 rfl (lv_at hl 3 rfl) ?_
        refine mw_put (ci := 4) (v := a2) (ty := .int) (C := RX4) (T := TX4) (N := 2) hx hb ht inX4 tyX4 tyX4_ok nmX4 hown hSt hP hS (ke12 (ks1_3 (ks8_0 (ks9_0 kh))) (vp_lt (by rw [(ln1_3 (ks8_0 (ks9_0 kh)))]; exact c_13))) (by decide) (mk4 (ke12 (ks1_3 (ks8_0 (ks9_0 kh))) (vp_lt (by rw [(ln1_3 (ks8_0 (ks9_0 kh)))]; exact c_13)))) rfl 1 (by decide) (ht _ wf_RX9_88) rfl rfl (by decide +kernel) (vp_nar_int _) rfl (Nat.le_of_ble_eq_true rfl) (by rw [mk4 (ke12 (ks1_3 (ks8_0 (ks9_0 kh))) (vp_lt (by rw [(ln1_3 (ks8_0 (ks9_0 kh)))]; exact c_13)))]; simp [mu]) dX9_seeker_74 (fun M_14 H locs eM_14 hP hS => ?_)
        have hw := hw M_14 eM_14
        refine lv_aload_n hx hb dX9_seeker_77 rfl (lv_at hl 1 rfl) ?_
        refine mw_get (ci := 9) (v := .ref (G.1 + (h + 1))) (C := RX9) (T := TX9) (N := 8) hx hb ht inX9 hown hSt hP kh (by decide) (mk9 kh) rfl 0 (by decide) (ht _ wf_RX9_10) rfl rfl dX9_seeker_78 ?_
        refine mw_get (ci := 8) (v := .ref (G.1 + (h + 1 + 1))) (C := RX8) (T := TX8) (N := 4) hx hb ht inX8 hown hSt hP (ks9_0 kh) (by decide) (mk8 (ks9_0 kh)) rfl 0 (by decide) (ht _ wf_RX9_63) rfl rfl dX9_seeker_81 ?_
        refine lv_iload_n hx hb dX9_seeker_84 rfl (lv_at hl 0 rfl) ?_
        refine lv_iconst (v := 1) hx hb dX9_seeker_85 (by decide) ?_
        refine lv_iadd hx hb dX9_seeker_86 ?_
        refine mw_put (ci := 1) (v := x_9 + 1) (ty := .int) (C := RX1) (T := TX1) (N := 9) hx hb ht inX1 tyX1 tyX1_ok nmX1 hown hSt hP hS (ks8_0 (ks9_0 kh)) (by decide) (mk1 (ks8_0 (ks9_0 kh))) rfl 6 (by decide) (ht _ wf_RX9_75) rfl rfl (by decide +kernel) (vp_nar_int _) rfl (Nat.le_of_ble_eq_true rfl) (by rw [mk1 (ks8_0 (ks9_0 kh))]; simp [mu]) dX9_seeker_87 (fun M_15 H locs eM_15 hP hS => ?_)
        have hw := hw M_15 eM_15
        refine lv_iload_n hx hb dX9_seeker_90 rfl (lv_at hl 0 rfl) ?_
        exact W.iret hx hb hr (mw_end hP hSt hTb hS ⟨_, rfl, hw⟩) hS.2.2 dX9_seeker_91
      · have hw := hw.2 c_10
        refine lv_aload_n hx hb dX9_seeker_39 rfl (lv_at hl 1 rfl) ?_
        refine lv_iconst (v := 4) hx hb dX9_seeker_40 (by decide) ?_
        refine mw_V (As := [.int 4]) (rest := []) (T := TX9) (N := 8) (n := 1) ⟨hx, hb, hml, hown, hts⟩ (so_X9_refuse l G h 4 M_6 _ hw) wm_RX9_59 wi_yX9_refuse wv_yX9_refuse wn_RX9 wc_yX9_refuse (by decide) ⟨Nat.le_of_ble_eq_true rfl, Nat.le_of_ble_eq_true rfl⟩ ⟨rfl, rfl⟩ kh (by decide) (mk9 kh) rfl hSt hTb hP hS rfl hl.1 rfl (Nat.le_of_ble_eq_true rfl) dX9_seeker_41 ⟨Nat.le_refl 0, Nat.le_refl 0⟩ (fun rr_ M_16 H locs hq hP hS => ?_)
        obtain ⟨r_17, rfl, hw⟩ := hq
        exact W.iret hx hb hr (mw_end hP hSt hTb hS ⟨_, rfl, hw⟩) hS.2.2 dX9_seeker_44
    · have hw := hw.2 c_8
      exact J_16 M_6 _ _ _ hw hP hS (lv_sub hl [0] rfl)
def wp_X9_isSeeker (h : Nat) (a1 : Int32) (M : Mem) (Q : Int32 → Mem → Prop) : Prop :=
  kdT h = 9 ∧ (wp_X9_isWithin a1 ((M (h + 1 + 1) 6) - 1) M (fun r_2 M_1 => isb r_2 ∧ Q r_2 M_1))
set_option maxHeartbeats 4000000 in
set_option maxRecDepth 100000 in
theorem so_X9_isSeeker (l : Launch) (G : Gm) (h : Nat) (a1 : Int32) (M : Mem) (Q : Int32 → Mem → Prop) (hw : wp_X9_isSeeker h a1 M Q) : Ct l G yX9_isSeeker cX9_isSeeker 2 (some .boolean) ({ frames := 1, cells := 0, slots := 0, locals := 21 } : Room) [.ref (G.1 + h), .int a1] M (Qi Q) := by
  unfold wp_X9_isSeeker at hw
  obtain ⟨kh, hw⟩ := hw
  refine ct_of (by decide) (Nat.le_of_ble_eq_true rfl) ?_
  intro p e s m below meth c E_ ls H hl hP hS
  obtain ⟨hx, hb, hml, hown, hts, ht, hr, hlocks, hSt, hTb⟩ := E_
  have hl : lv_has ls 2 [(0, .ref (G.1 + h)), (1, .int a1)] := hl
  refine lv_iload_n hx hb dX9_isSeeker_0 rfl (lv_at hl 1 rfl) ?_
  refine lv_aload_n hx hb dX9_isSeeker_1 rfl (lv_at hl 0 rfl) ?_
  refine mw_get (ci := 9) (v := .ref (G.1 + (h + 1))) (C := RX9) (T := TX9) (N := 8) hx hb ht inX9 hown hSt hP kh (by decide) (mk9 kh) rfl 0 (by decide) (ht _ wf_RX9_10) rfl rfl dX9_isSeeker_2 ?_
  refine mw_get (ci := 8) (v := .ref (G.1 + (h + 1 + 1))) (C := RX8) (T := TX8) (N := 4) hx hb ht inX8 hown hSt hP (ks9_0 kh) (by decide) (mk8 (ks9_0 kh)) rfl 0 (by decide) (ht _ wf_RX9_63) rfl rfl dX9_isSeeker_5 ?_
  refine mw_get (ci := 1) (v := .int (M (h + 1 + 1) 6)) (C := RX1) (T := TX1) (N := 9) hx hb ht inX1 hown hSt hP (ks8_0 (ks9_0 kh)) (by decide) (mk1 (ks8_0 (ks9_0 kh))) rfl 6 (by decide) (ht _ wf_RX9_75) rfl rfl dX9_isSeeker_8 ?_
  refine lv_iconst (v := 1) hx hb dX9_isSeeker_11 (by decide) ?_
  refine lv_isub hx hb dX9_isSeeker_12 ?_
  refine mw_Sx (As := [.int a1, .int ((M (h + 1 + 1) 6) - 1)]) (rest := []) (n := 2) ⟨hx, hb, hml, hown, hts⟩ (so_X9_isWithin l G a1 ((M (h + 1 + 1) 6) - 1) M _ hw) wm_RX9_55 wt_yX9_isWithin wn_RX9 wc_yX9_isWithin (by decide) ⟨Nat.le_of_ble_eq_true rfl, Nat.le_of_ble_eq_true rfl⟩ ⟨rfl, rfl⟩ hSt hTb hP hS rfl hl.1 rfl (Nat.le_of_ble_eq_true rfl) dX9_isSeeker_13 ⟨Nat.le_refl 0, Nat.le_refl 0⟩ (fun rr_ M_1 H locs hq hP hS => ?_)
  obtain ⟨r_2, rfl, hw⟩ := hq
  obtain ⟨c_3, hw⟩ := hw
  exact W.zret hx hb hr c_3.narrow (mw_end hP hSt hTb hS ⟨_, rfl, hw⟩) hS.2.2 dX9_isSeeker_16
def wp_X9_ofSeeker (h : Nat) (a1 : Int32) (a2 : Int32) (M : Mem) (Q : Int32 → Mem → Prop) : Prop :=
  kdT h = 9 ∧ (wp_X9_isSeeker h a1 M (fun r_2 M_1 => (¬ r_2 = 0 → (a2 = 0 → vp_in a1 6 ∧ (Q (M_1 (h + 1 + 1 + 12 + 4 + a1.toNatClampNeg) 0) M_1)) ∧ (a2 = 1 → vp_in a1 6 ∧ (Q (M_1 (h + 1 + 1 + 12 + 4 + a1.toNatClampNeg) 1) M_1)) ∧ (a2 = 2 → wp_X1_outFor (h + 1 + 1) a1 M_1 (fun r_10 M_9 => Q r_10 M_9)) ∧ (¬ a2 = 0 → ¬ a2 = 1 → ¬ a2 = 2 → wp_X9_refuse h 1 M_1 (fun r_12 M_11 => Q r_12 M_11))) ∧ (r_2 = 0 → wp_X9_refuse h 1 M_1 (fun r_14 M_13 => Q r_14 M_13))))
set_option maxHeartbeats 4000000 in
set_option maxRecDepth 100000 in
theorem so_X9_ofSeeker (l : Launch) (G : Gm) (h : Nat) (a1 : Int32) (a2 : Int32) (M : Mem) (Q : Int32 → Mem → Prop) (hw : wp_X9_ofSeeker h a1 a2 M Q) : Ct l G yX9_ofSeeker cX9_ofSeeker 3 (some .int) ({ frames := 4, cells := 0, slots := 0, locals := 110 } : Room) [.ref (G.1 + h), .int a1, .int a2] M (Qi Q) := by
  unfold wp_X9_ofSeeker at hw
  obtain ⟨kh, hw⟩ := hw
  refine ct_of (by decide) (Nat.le_of_ble_eq_true rfl) ?_
  intro p e s m below meth c E_ ls H hl hP hS
  obtain ⟨hx, hb, hml, hown, hts, ht, hr, hlocks, hSt, hTb⟩ := E_
  have hl : lv_has ls 3 [(0, .ref (G.1 + h)), (1, .int a1), (2, .int a2)] := hl
  refine lv_aload_n hx hb dX9_ofSeeker_0 rfl (lv_at hl 0 rfl) ?_
  refine lv_iload_n hx hb dX9_ofSeeker_1 rfl (lv_at hl 1 rfl) ?_
  refine mw_V (As := [.int a1]) (rest := []) (T := TX9) (N := 8) (n := 1) ⟨hx, hb, hml, hown, hts⟩ (so_X9_isSeeker l G h a1 M _ hw) wm_RX9_91 wi_yX9_isSeeker wv_yX9_isSeeker wn_RX9 wc_yX9_isSeeker (by decide) ⟨Nat.le_of_ble_eq_true rfl, Nat.le_of_ble_eq_true rfl⟩ ⟨rfl, rfl⟩ kh (by decide) (mk9 kh) rfl hSt hTb hP hS rfl hl.1 rfl (Nat.le_of_ble_eq_true rfl) dX9_ofSeeker_2 ⟨Nat.le_refl 0, Nat.le_refl 0⟩ (fun rr_ M_1 H locs hq hP hS => ?_)
  obtain ⟨r_2, rfl, hw⟩ := hq
  refine lv_if_ne (tgt := 14) hx hb dX9_ofSeeker_5 (by decide) (fun c_3 => ?_) (fun c_3 => ?_)
  · have hw := hw.1 c_3
    refine lv_iload_n hx hb dX9_ofSeeker_14 rfl (lv_at hl 2 rfl) ?_
    by_cases c_4 : a2 = 0
    · have hw := hw.1 c_4
      refine mw_tcase (tgt := 40) (off := 25) hx hb dX9_ofSeeker_15 c_4 (by decide) ?_
      refine lv_aload_n hx hb dX9_ofSeeker_40 rfl (lv_at hl 0 rfl) ?_
      refine mw_get (ci := 9) (v := .ref (G.1 + (h + 1))) (C := RX9) (T := TX9) (N := 8) hx hb ht inX9 hown hSt hP kh (by decide) (mk9 kh) rfl 0 (by decide) (ht _ wf_RX9_10) rfl rfl dX9_ofSeeker_41 ?_
      refine mw_get (ci := 8) (v := .ref (G.1 + (h + 1 + 1))) (C := RX8) (T := TX8) (N := 4) hx hb ht inX8 hown hSt hP (ks9_0 kh) (by decide) (mk8 (ks9_0 kh)) rfl 0 (by decide) (ht _ wf_RX9_63) rfl rfl dX9_ofSeeker_44 ?_
      refine mw_get (ci := 1) (v := .ref (G.1 + (h + 1 + 1 + 12))) (C := RX1) (T := TX1) (N := 9) hx hb ht inX1 hown hSt hP (ks8_0 (ks9_0 kh)) (by decide) (mk1 (ks8_0 (ks9_0 kh))) rfl 3 (by decide) (ht _ wf_RX9_79) rfl rfl dX9_ofSeeker_47 ?_
      refine lv_iload_n hx hb dX9_ofSeeker_50 rfl (lv_at hl 1 rfl) ?_
      obtain ⟨c_5, hw⟩ := hw
      refine mw_aald12 hx hb hSt hP (ks1_3 (ks8_0 (ks9_0 kh))) (by rw [(ln1_3 (ks8_0 (ks9_0 kh)))]; exact c_5) dX9_ofSeeker_51 ?_
      refine mw_get (ci := 4) (v := .int (M_1 (h + 1 + 1 + 12 + 4 + a1.toNatClampNeg) 0)) (C := RX4) (T := TX4) (N := 2) hx hb ht inX4 hown hSt hP (ke12 (ks1_3 (ks8_0 (ks9_0 kh))) (vp_lt (by rw [(ln1_3 (ks8_0 (ks9_0 kh)))]; exact c_5))) (by decide) (mk4 (ke12 (ks1_3 (ks8_0 (ks9_0 kh))) (vp_lt (by rw [(ln1_3 (ks8_0 (ks9_0 kh)))]; exact c_5)))) rfl 0 (by decide) (ht _ wf_RX9_83) rfl rfl dX9_ofSeeker_52 ?_
      exact W.iret hx hb hr (mw_end hP hSt hTb hS ⟨_, rfl, hw⟩) hS.2.2 dX9_ofSeeker_55
    by_cases c_6 : a2 = 1
    · have hw := hw.2.1 c_6
      refine mw_tcase (tgt := 56) (off := 41) hx hb dX9_ofSeeker_15 c_6 (by decide) ?_
      refine lv_aload_n hx hb dX9_ofSeeker_56 rfl (lv_at hl 0 rfl) ?_
      refine mw_get (ci := 9) (v := .ref (G.1 + (h + 1))) (C := RX9) (T := TX9) (N := 8) hx hb ht inX9 hown hSt hP kh (by decide) (mk9 kh) rfl 0 (by decide) (ht _ wf_RX9_10) rfl rfl dX9_ofSeeker_57 ?_
      refine mw_get (ci := 8) (v := .ref (G.1 + (h + 1 + 1))) (C := RX8) (T := TX8) (N := 4) hx hb ht inX8 hown hSt hP (ks9_0 kh) (by decide) (mk8 (ks9_0 kh)) rfl 0 (by decide) (ht _ wf_RX9_63) rfl rfl dX9_ofSeeker_60 ?_
      refine mw_get (ci := 1) (v := .ref (G.1 + (h + 1 + 1 + 12))) (C := RX1) (T := TX1) (N := 9) hx hb ht inX1 hown hSt hP (ks8_0 (ks9_0 kh)) (by decide) (mk1 (ks8_0 (ks9_0 kh))) rfl 3 (by decide) (ht _ wf_RX9_79) rfl rfl dX9_ofSeeker_63 ?_
      refine lv_iload_n hx hb dX9_ofSeeker_66 rfl (lv_at hl 1 rfl) ?_
      obtain ⟨c_7, hw⟩ := hw
      refine mw_aald12 hx hb hSt hP (ks1_3 (ks8_0 (ks9_0 kh))) (by rw [(ln1_3 (ks8_0 (ks9_0 kh)))]; exact c_7) dX9_ofSeeker_67 ?_
      refine mw_get (ci := 4) (v := .int (M_1 (h + 1 + 1 + 12 + 4 + a1.toNatClampNeg) 1)) (C := RX4) (T := TX4) (N := 2) hx hb ht inX4 hown hSt hP (ke12 (ks1_3 (ks8_0 (ks9_0 kh))) (vp_lt (by rw [(ln1_3 (ks8_0 (ks9_0 kh)))]; exact c_7))) (by decide) (mk4 (ke12 (ks1_3 (ks8_0 (ks9_0 kh))) (vp_lt (by rw [(ln1_3 (ks8_0 (ks9_0 kh)))]; exact c_7)))) rfl 1 (by decide) (ht _ wf_RX9_88) rfl rfl dX9_ofSeeker_68 ?_
      exact W.iret hx hb hr (mw_end hP hSt hTb hS ⟨_, rfl, hw⟩) hS.2.2 dX9_ofSeeker_71
    by_cases c_8 : a2 = 2
    · have hw := hw.2.2.1 c_8
      refine mw_tcase (tgt := 72) (off := 57) hx hb dX9_ofSeeker_15 c_8 (by decide) ?_
      refine lv_aload_n hx hb dX9_ofSeeker_72 rfl (lv_at hl 0 rfl) ?_
      refine mw_get (ci := 9) (v := .ref (G.1 + (h + 1))) (C := RX9) (T := TX9) (N := 8) hx hb ht inX9 hown hSt hP kh (by decide) (mk9 kh) rfl 0 (by decide) (ht _ wf_RX9_10) rfl rfl dX9_ofSeeker_73 ?_
      refine mw_get (ci := 8) (v := .ref (G.1 + (h + 1 + 1))) (C := RX8) (T := TX8) (N := 4) hx hb ht inX8 hown hSt hP (ks9_0 kh) (by decide) (mk8 (ks9_0 kh)) rfl 0 (by decide) (ht _ wf_RX9_63) rfl rfl dX9_ofSeeker_76 ?_
      refine lv_iload_n hx hb dX9_ofSeeker_79 rfl (lv_at hl 1 rfl) ?_
      refine mw_V (As := [.int a1]) (rest := []) (T := TX1) (N := 9) (n := 1) ⟨hx, hb, hml, hown, hts⟩ (so_X1_outFor l G (h + 1 + 1) a1 M_1 _ hw) wm_RX9_94 wi_yX1_outFor wv_yX1_outFor wn_RX1 wc_yX1_outFor (by decide) ⟨Nat.le_of_ble_eq_true rfl, Nat.le_of_ble_eq_true rfl⟩ ⟨rfl, rfl⟩ (ks8_0 (ks9_0 kh)) (by decide) (mk1 (ks8_0 (ks9_0 kh))) rfl hSt hTb hP hS rfl hl.1 rfl (Nat.le_of_ble_eq_true rfl) dX9_ofSeeker_80 ⟨Nat.le_refl 0, Nat.le_refl 0⟩ (fun rr_ M_9 H locs hq hP hS => ?_)
      obtain ⟨r_10, rfl, hw⟩ := hq
      exact W.iret hx hb hr (mw_end hP hSt hTb hS ⟨_, rfl, hw⟩) hS.2.2 dX9_ofSeeker_83
    have hw := hw.2.2.2 c_4 c_6 c_8
    refine mw_tdef (keys := [0, 1, 2]) (tgt := 84) hx hb dX9_ofSeeker_15 (List.forall_mem_cons.mpr ⟨c_4, (List.forall_mem_cons.mpr ⟨c_6, (List.forall_mem_cons.mpr ⟨c_8, (fun _ h_ => absurd h_ List.not_mem_nil)⟩)⟩)⟩) (by decide) (by decide) ?_
    refine lv_aload_n hx hb dX9_ofSeeker_84 rfl (lv_at hl 0 rfl) ?_
    refine lv_iconst (v := 1) hx hb dX9_ofSeeker_85 (by decide) ?_
    refine mw_V (As := [.int 1]) (rest := []) (T := TX9) (N := 8) (n := 1) ⟨hx, hb, hml, hown, hts⟩ (so_X9_refuse l G h 1 M_1 _ hw) wm_RX9_59 wi_yX9_refuse wv_yX9_refuse wn_RX9 wc_yX9_refuse (by decide) ⟨Nat.le_of_ble_eq_true rfl, Nat.le_of_ble_eq_true rfl⟩ ⟨rfl, rfl⟩ kh (by decide) (mk9 kh) rfl hSt hTb hP hS rfl hl.1 rfl (Nat.le_of_ble_eq_true rfl) dX9_ofSeeker_86 ⟨Nat.le_refl 0, Nat.le_refl 0⟩ (fun rr_ M_11 H locs hq hP hS => ?_)
    obtain ⟨r_12, rfl, hw⟩ := hq
    exact W.iret hx hb hr (mw_end hP hSt hTb hS ⟨_, rfl, hw⟩) hS.2.2 dX9_ofSeeker_89
  · have hw := hw.2 c_3
    refine lv_aload_n hx hb dX9_ofSeeker_8 rfl (lv_at hl 0 rfl) ?_
    refine lv_iconst (v := 1) hx hb dX9_ofSeeker_9 (by decide) ?_
    refine mw_V (As := [.int 1]) (rest := []) (T := TX9) (N := 8) (n := 1) ⟨hx, hb, hml, hown, hts⟩ (so_X9_refuse l G h 1 M_1 _ hw) wm_RX9_59 wi_yX9_refuse wv_yX9_refuse wn_RX9 wc_yX9_refuse (by decide) ⟨Nat.le_of_ble_eq_true rfl, Nat.le_of_ble_eq_true rfl⟩ ⟨rfl, rfl⟩ kh (by decide) (mk9 kh) rfl hSt hTb hP hS rfl hl.1 rfl (Nat.le_of_ble_eq_true rfl) dX9_ofSeeker_10 ⟨Nat.le_refl 0, Nat.le_refl 0⟩ (fun rr_ M_13 H locs hq hP hS => ?_)
    obtain ⟨r_14, rfl, hw⟩ := hq
    exact W.iret hx hb hr (mw_end hP hSt hTb hS ⟨_, rfl, hw⟩) hS.2.2 dX9_ofSeeker_13
def b_X9_send_85 (h : Nat) (Q : Int32 → Mem → Prop) (M : Mem) : Prop :=
  wp_X9_refuse h 1 M (fun r_2 M_1 => Q r_2 M_1)
def b_X9_send_55 (h : Nat) (Q : Int32 → Mem → Prop) (v2 : Int32) (v3 : Int32) (r4 : Nat) (M : Mem) : Prop :=
  (¬ v2 = 1 → b_X9_send_85 h Q M) ∧ (v2 = 1 → wp_X9_isWithin v3 99 M (fun r_5 M_4 => (r_5 = 0 → b_X9_send_85 h Q M_4) ∧ (¬ r_5 = 0 → ∀ x_7, x_7 = M_4 r4 1 → ∀ M_8, M_8 = mu M_4 r4 1 v3 → Q x_7 M_8)))
def wp_X9_send (h : Nat) (a1 : Int32) (a2 : Int32) (a3 : Int32) (M : Mem) (Q : Int32 → Mem → Prop) : Prop :=
  kdT h = 9 ∧ (wp_X9_isSeeker h a1 M (fun r_10 M_9 => (¬ r_10 = 0 → vp_in a1 6 ∧ (∀ q_13, q_13 = h + 1 + 1 + 12 + 4 + a1.toNatClampNeg → (¬ a2 = 0 → b_X9_send_55 h Q a2 a3 q_13 M_9) ∧ (a2 = 0 → wp_X9_isCell a3 M_9 (fun r_16 M_15 => (r_16 = 0 → b_X9_send_55 h Q a2 a3 q_13 M_15) ∧ (¬ r_16 = 0 → ∀ x_18, x_18 = M_15 q_13 0 → ∀ M_19, M_19 = mu M_15 q_13 0 a3 → Q x_18 M_19))))) ∧ (r_10 = 0 → wp_X9_refuse h 1 M_9 (fun r_21 M_20 => Q r_21 M_20))))
set_option maxHeartbeats 4000000 in
set_option maxRecDepth 100000 in
theorem so_X9_send (l : Launch) (G : Gm) (h : Nat) (a1 : Int32) (a2 : Int32) (a3 : Int32) (M : Mem) (Q : Int32 → Mem → Prop) (hw : wp_X9_send h a1 a2 a3 M Q) : Ct l G yX9_send cX9_send 6 (some .int) ({ frames := 2, cells := 0, slots := 0, locals := 42 } : Room) [.ref (G.1 + h), .int a1, .int a2, .int a3] M (Qi Q) := by
  unfold wp_X9_send at hw
  obtain ⟨kh, hw⟩ := hw
  refine ct_of (by decide) (Nat.le_of_ble_eq_true rfl) ?_
  intro p e s m below meth c E_ ls H hl hP hS
  obtain ⟨hx, hb, hml, hown, hts, ht, hr, hlocks, hSt, hTb⟩ := E_
  have hl : lv_has ls 6 [(0, .ref (G.1 + h)), (1, .int a1), (2, .int a2), (3, .int a3)] := hl
  have J_85 : ∀  (M : Mem) (H : Heap) (locs : List Loc) (ls : Array Slot), b_X9_send_85 h Q M → va_P G.2.1 clsA (wl G M) H → va_S (inW G) s.heap H locs → lv_has ls 6 [(0, .ref (G.1 + h))] → W p l e ({ frames := 2, cells := 0, slots := 0, locals := 42 } : Room) s m ([.ref (G.1 + h), .int a1, .int a2, .int a3] : List Value).toArray below meth c H locs 0 0 (MQ below (Pq G (Qi Q)) ([.ref (G.1 + h), .int a1, .int a2, .int a3] : List Value).toArray s 0 0 (inW G)) (F0 m 85 ls []) := by
    intro  M H locs ls  hw hP hS hl
    unfold b_X9_send_85 at hw
    refine lv_aload_n hx hb dX9_send_85 rfl (lv_at hl 0 rfl) ?_
    refine lv_iconst (v := 1) hx hb dX9_send_86 (by decide) ?_
    refine mw_V (As := [.int 1]) (rest := []) (T := TX9) (N := 8) (n := 1) ⟨hx, hb, hml, hown, hts⟩ (so_X9_refuse l G h 1 M _ hw) wm_RX9_59 wi_yX9_refuse wv_yX9_refuse wn_RX9 wc_yX9_refuse (by decide) ⟨Nat.le_of_ble_eq_true rfl, Nat.le_of_ble_eq_true rfl⟩ ⟨rfl, rfl⟩ kh (by decide) (mk9 kh) rfl hSt hTb hP hS rfl hl.1 rfl (Nat.le_of_ble_eq_true rfl) dX9_send_87 ⟨Nat.le_refl 0, Nat.le_refl 0⟩ (fun rr_ M_1 H locs hq hP hS => ?_)
    obtain ⟨r_2, rfl, hw⟩ := hq
    exact W.iret hx hb hr (mw_end hP hSt hTb hS ⟨_, rfl, hw⟩) hS.2.2 dX9_send_90
  have J_55 : ∀ (v2 : Int32) (v3 : Int32) (r4 : Nat) (M : Mem) (H : Heap) (locs : List Loc) (ls : Array Slot), kdT r4 = 4 → b_X9_send_55 h Q v2 v3 r4 M → va_P G.2.1 clsA (wl G M) H → va_S (inW G) s.heap H locs → lv_has ls 6 [(0, .ref (G.1 + h)), (2, .int v2), (3, .int v3), (4, .ref (G.1 + r4))] → W p l e ({ frames := 2, cells := 0, slots := 0, locals := 42 } : Room) s m ([.ref (G.1 + h), .int a1, .int a2, .int a3] : List Value).toArray below meth c H locs 0 0 (MQ below (Pq G (Qi Q)) ([.ref (G.1 + h), .int a1, .int a2, .int a3] : List Value).toArray s 0 0 (inW G)) (F0 m 55 ls []) := by
    intro v2 v3 r4 M H locs ls kr4 hw hP hS hl
    unfold b_X9_send_55 at hw
    refine lv_iload_n hx hb dX9_send_55 rfl (lv_at hl 1 rfl) ?_
    refine lv_iconst (v := 1) hx hb dX9_send_56 (by decide) ?_
    refine lv_icmp_ne (tgt := 85) hx hb dX9_send_57 (by decide) (fun c_3 => ?_) (fun c_3 => ?_)
    · have hw := hw.1 c_3
      exact J_85 M _ _ _ hw hP hS (lv_sub hl [0] rfl)
    · have hw := hw.2 c_3
      refine lv_iload_n hx hb dX9_send_60 rfl (lv_at hl 2 rfl) ?_
      refine lv_bipush (v := 99) hx hb dX9_send_61 (by decide) ?_
      refine mw_Sx (As := [.int v3, .int 99]) (rest := []) (n := 2) ⟨hx, hb, hml, hown, hts⟩ (so_X9_isWithin l G v3 99 M _ hw) wm_RX9_55 wt_yX9_isWithin wn_RX9 wc_yX9_isWithin (by decide) ⟨Nat.le_of_ble_eq_true rfl, Nat.le_of_ble_eq_true rfl⟩ ⟨rfl, rfl⟩ hSt hTb hP hS rfl hl.1 rfl (Nat.le_of_ble_eq_true rfl) dX9_send_63 ⟨Nat.le_refl 0, Nat.le_refl 0⟩ (fun rr_ M_4 H locs hq hP hS => ?_)
      obtain ⟨r_5, rfl, hw⟩ := hq
      refine lv_if_eq (tgt := 85) hx hb dX9_send_66 (by decide) (fun c_6 => ?_) (fun c_6 => ?_)
      · have hw := hw.1 c_6
        exact J_85 M_4 _ _ _ hw hP hS (lv_sub hl [0] rfl)
      · have hw := hw.2 c_6
        refine lv_aload hx hb dX9_send_69 (lv_at hl 3 rfl) ?_
        refine mw_get (ci := 4) (v := .int (M_4 r4 1)) (C := RX4) (T := TX4) (N := 2) hx hb ht inX4 hown hSt hP kr4 (by decide) (mk4 kr4) rfl 1 (by decide) (ht _ wf_RX9_88) rfl rfl dX9_send_71 ?_
        refine lv_topi (fun x_7 ex_7 => ?_)
        have hw := hw x_7 ex_7
        refine lv_istore (lv' := [(5, .int x_7), (0, .ref (G.1 + h)), (2, .int v2), (3, .int v3), (4, .ref (G.1 + r4))]) hx hb dX9_send_74 hl (by decide) rfl (fun ls hl => ?_)
        refine lv_aload hx hb dX9_send_76 (lv_at hl 4 rfl) ?_
        refine lv_iload_n hx hb dX9_send_78 rfl (lv_at hl 3 rfl) ?_
        refine mw_put (ci := 4) (v := v3) (ty := .int) (C := RX4) (T := TX4) (N := 2) hx hb ht inX4 tyX4 tyX4_ok nmX4 hown hSt hP hS kr4 (by decide) (mk4 kr4) rfl 1 (by decide) (ht _ wf_RX9_88) rfl rfl (by decide +kernel) (vp_nar_int _) rfl (Nat.le_of_ble_eq_true rfl) (by rw [mk4 kr4]; simp [mu]) dX9_send_79 (fun M_8 H locs eM_8 hP hS => ?_)
        have hw := hw M_8 eM_8
        refine lv_iload hx hb dX9_send_82 (lv_at hl 0 rfl) ?_
        exact W.iret hx hb hr (mw_end hP hSt hTb hS ⟨_, rfl, hw⟩) hS.2.2 dX9_send_84
  refine lv_aload_n hx hb dX9_send_0 rfl (lv_at hl 0 rfl) ?_
  refine lv_iload_n hx hb dX9_send_1 rfl (lv_at hl 1 rfl) ?_
  refine mw_V (As := [.int a1]) (rest := []) (T := TX9) (N := 8) (n := 1) ⟨hx, hb, hml, hown, hts⟩ (so_X9_isSeeker l G h a1 M _ hw) wm_RX9_91 wi_yX9_isSeeker wv_yX9_isSeeker wn_RX9 wc_yX9_isSeeker (by decide) ⟨Nat.le_of_ble_eq_true rfl, Nat.le_of_ble_eq_true rfl⟩ ⟨rfl, rfl⟩ kh (by decide) (mk9 kh) rfl hSt hTb hP hS rfl hl.1 rfl (Nat.le_of_ble_eq_true rfl) dX9_send_2 ⟨Nat.le_refl 0, Nat.le_refl 0⟩ (fun rr_ M_9 H locs hq hP hS => ?_)
  obtain ⟨r_10, rfl, hw⟩ := hq
  refine lv_if_ne (tgt := 14) hx hb dX9_send_5 (by decide) (fun c_11 => ?_) (fun c_11 => ?_)
  · have hw := hw.1 c_11
    refine lv_aload_n hx hb dX9_send_14 rfl (lv_at hl 0 rfl) ?_
    refine mw_get (ci := 9) (v := .ref (G.1 + (h + 1))) (C := RX9) (T := TX9) (N := 8) hx hb ht inX9 hown hSt hP kh (by decide) (mk9 kh) rfl 0 (by decide) (ht _ wf_RX9_10) rfl rfl dX9_send_15 ?_
    refine mw_get (ci := 8) (v := .ref (G.1 + (h + 1 + 1))) (C := RX8) (T := TX8) (N := 4) hx hb ht inX8 hown hSt hP (ks9_0 kh) (by decide) (mk8 (ks9_0 kh)) rfl 0 (by decide) (ht _ wf_RX9_63) rfl rfl dX9_send_18 ?_
    refine mw_get (ci := 1) (v := .ref (G.1 + (h + 1 + 1 + 12))) (C := RX1) (T := TX1) (N := 9) hx hb ht inX1 hown hSt hP (ks8_0 (ks9_0 kh)) (by decide) (mk1 (ks8_0 (ks9_0 kh))) rfl 3 (by decide) (ht _ wf_RX9_79) rfl rfl dX9_send_21 ?_
    refine lv_iload_n hx hb dX9_send_24 rfl (lv_at hl 1 rfl) ?_
    obtain ⟨c_12, hw⟩ := hw
    refine mw_aald12 hx hb hSt hP (ks1_3 (ks8_0 (ks9_0 kh))) (by rw [(ln1_3 (ks8_0 (ks9_0 kh)))]; exact c_12) dX9_send_25 ?_
    obtain ⟨q_13, eq_13⟩ : ∃ z, z = h + 1 + 1 + 12 + 4 + a1.toNatClampNeg := ⟨_, rfl⟩
    have hw := hw q_13 eq_13
    have kq_13 : kdT q_13 = 4 := by rw [eq_13]; exact (ke12 (ks1_3 (ks8_0 (ks9_0 kh))) (vp_lt (by rw [(ln1_3 (ks8_0 (ks9_0 kh)))]; exact c_12)))
    rw [← eq_13]
    refine lv_astore (lv' := [(4, .ref (G.1 + q_13)), (0, .ref (G.1 + h)), (1, .int a1), (2, .int a2), (3, .int a3)]) hx hb dX9_send_26 hl (by decide) rfl (fun ls hl => ?_)
    refine lv_iload_n hx hb dX9_send_28 rfl (lv_at hl 3 rfl) ?_
    refine lv_if_ne (tgt := 55) hx hb dX9_send_29 (by decide) (fun c_14 => ?_) (fun c_14 => ?_)
    · have hw := hw.1 c_14
      exact J_55 a2 a3 q_13 M_9 _ _ _ kq_13 hw hP hS (lv_sub hl [1, 3, 4, 0] rfl)
    · have hw := hw.2 c_14
      refine lv_iload_n hx hb dX9_send_32 rfl (lv_at hl 4 rfl) ?_
      refine mw_Sx (As := [.int a3]) (rest := []) (n := 1) ⟨hx, hb, hml, hown, hts⟩ (so_X9_isCell l G a3 M_9 _ hw) wm_RX9_51 wt_yX9_isCell wn_RX9 wc_yX9_isCell (by decide) ⟨Nat.le_of_ble_eq_true rfl, Nat.le_of_ble_eq_true rfl⟩ ⟨rfl, rfl⟩ hSt hTb hP hS rfl hl.1 rfl (Nat.le_of_ble_eq_true rfl) dX9_send_33 ⟨Nat.le_refl 0, Nat.le_refl 0⟩ (fun rr_ M_15 H locs hq hP hS => ?_)
      obtain ⟨r_16, rfl, hw⟩ := hq
      refine lv_if_eq (tgt := 55) hx hb dX9_send_36 (by decide) (fun c_17 => ?_) (fun c_17 => ?_)
      · have hw := hw.1 c_17
        exact J_55 a2 a3 q_13 M_15 _ _ _ kq_13 hw hP hS (lv_sub hl [1, 3, 4, 0] rfl)
      · have hw := hw.2 c_17
        refine lv_aload hx hb dX9_send_39 (lv_at hl 0 rfl) ?_
        refine mw_get (ci := 4) (v := .int (M_15 q_13 0)) (C := RX4) (T := TX4) (N := 2) hx hb ht inX4 hown hSt hP kq_13 (by decide) (mk4 kq_13) rfl 0 (by decide) (ht _ wf_RX9_83) rfl rfl dX9_send_41 ?_
        refine lv_topi (fun x_18 ex_18 => ?_)
        have hw := hw x_18 ex_18
        refine lv_istore (lv' := [(5, .int x_18), (4, .ref (G.1 + q_13)), (0, .ref (G.1 + h)), (1, .int a1), (2, .int a2), (3, .int a3)]) hx hb dX9_send_44 hl (by decide) rfl (fun ls hl => ?_)
        refine lv_aload hx hb dX9_send_46 (lv_at hl 1 rfl) ?_
        refine lv_iload_n hx hb dX9_send_48 rfl (lv_at hl 5 rfl) ?_
        refine mw_put (ci := 4) (v := a3) (ty := .int) (C := RX4) (T := TX4) (N := 2) hx hb ht inX4 tyX4 tyX4_ok nmX4 hown hSt hP hS kq_13 (by decide) (mk4 kq_13) rfl 0 (by decide) (ht _ wf_RX9_83) rfl rfl (by decide +kernel) (vp_nar_int _) rfl (Nat.le_of_ble_eq_true rfl) (by rw [mk4 kq_13]; simp [mu]) dX9_send_49 (fun M_19 H locs eM_19 hP hS => ?_)
        have hw := hw M_19 eM_19
        refine lv_iload hx hb dX9_send_52 (lv_at hl 0 rfl) ?_
        exact W.iret hx hb hr (mw_end hP hSt hTb hS ⟨_, rfl, hw⟩) hS.2.2 dX9_send_54
  · have hw := hw.2 c_11
    refine lv_aload_n hx hb dX9_send_8 rfl (lv_at hl 0 rfl) ?_
    refine lv_iconst (v := 1) hx hb dX9_send_9 (by decide) ?_
    refine mw_V (As := [.int 1]) (rest := []) (T := TX9) (N := 8) (n := 1) ⟨hx, hb, hml, hown, hts⟩ (so_X9_refuse l G h 1 M_9 _ hw) wm_RX9_59 wi_yX9_refuse wv_yX9_refuse wn_RX9 wc_yX9_refuse (by decide) ⟨Nat.le_of_ble_eq_true rfl, Nat.le_of_ble_eq_true rfl⟩ ⟨rfl, rfl⟩ kh (by decide) (mk9 kh) rfl hSt hTb hP hS rfl hl.1 rfl (Nat.le_of_ble_eq_true rfl) dX9_send_10 ⟨Nat.le_refl 0, Nat.le_refl 0⟩ (fun rr_ M_20 H locs hq hP hS => ?_)
    obtain ⟨r_21, rfl, hw⟩ := hq
    exact W.iret hx hb hr (mw_end hP hSt hTb hS ⟨_, rfl, hw⟩) hS.2.2 dX9_send_13
def wp_X9_isKindWithM (a0 : Int32) (M : Mem) (Q : Int32 → Mem → Prop) : Prop :=
  wp_X9_isWithin a0 69 M (fun r_2 M_1 => isb r_2 ∧ Q r_2 M_1)
set_option maxHeartbeats 4000000 in
set_option maxRecDepth 100000 in
theorem so_X9_isKindWithM (l : Launch) (G : Gm) (a0 : Int32) (M : Mem) (Q : Int32 → Mem → Prop) (hw : wp_X9_isKindWithM a0 M Q) : Ct l G yX9_isKindWithM cX9_isKindWithM 1 (some .boolean) ({ frames := 1, cells := 0, slots := 0, locals := 21 } : Room) [.int a0] M (Qi Q) := by
  unfold wp_X9_isKindWithM at hw
  refine ct_of (by decide) (Nat.le_of_ble_eq_true rfl) ?_
  intro p e s m below meth c E_ ls H hl hP hS
  obtain ⟨hx, hb, hml, hown, hts, ht, hr, hlocks, hSt, hTb⟩ := E_
  have hl : lv_has ls 1 [(0, .int a0)] := hl
  refine lv_iload_n hx hb dX9_isKindWithM_0 rfl (lv_at hl 0 rfl) ?_
  refine lv_bipush (v := 69) hx hb dX9_isKindWithM_1 (by decide) ?_
  refine mw_Sx (As := [.int a0, .int 69]) (rest := []) (n := 2) ⟨hx, hb, hml, hown, hts⟩ (so_X9_isWithin l G a0 69 M _ hw) wm_RX9_55 wt_yX9_isWithin wn_RX9 wc_yX9_isWithin (by decide) ⟨Nat.le_of_ble_eq_true rfl, Nat.le_of_ble_eq_true rfl⟩ ⟨rfl, rfl⟩ hSt hTb hP hS rfl hl.1 rfl (Nat.le_of_ble_eq_true rfl) dX9_isKindWithM_3 ⟨Nat.le_refl 0, Nat.le_refl 0⟩ (fun rr_ M_1 H locs hq hP hS => ?_)
  obtain ⟨r_2, rfl, hw⟩ := hq
  obtain ⟨c_3, hw⟩ := hw
  exact W.zret hx hb hr c_3.narrow (mw_end hP hSt hTb hS ⟨_, rfl, hw⟩) hS.2.2 dX9_isKindWithM_6
def wp_X9_isMark (h : Nat) (a1 : Int32) (M : Mem) (Q : Int32 → Mem → Prop) : Prop :=
  kdT h = 9 ∧ (wp_X9_isWithin a1 ((ish 1 (M (h + 1 + 1) 6)) - 1) M (fun r_2 M_1 => isb r_2 ∧ Q r_2 M_1))
set_option maxHeartbeats 4000000 in
set_option maxRecDepth 100000 in
theorem so_X9_isMark (l : Launch) (G : Gm) (h : Nat) (a1 : Int32) (M : Mem) (Q : Int32 → Mem → Prop) (hw : wp_X9_isMark h a1 M Q) : Ct l G yX9_isMark cX9_isMark 2 (some .boolean) ({ frames := 1, cells := 0, slots := 0, locals := 21 } : Room) [.ref (G.1 + h), .int a1] M (Qi Q) := by
  unfold wp_X9_isMark at hw
  obtain ⟨kh, hw⟩ := hw
  refine ct_of (by decide) (Nat.le_of_ble_eq_true rfl) ?_
  intro p e s m below meth c E_ ls H hl hP hS
  obtain ⟨hx, hb, hml, hown, hts, ht, hr, hlocks, hSt, hTb⟩ := E_
  have hl : lv_has ls 2 [(0, .ref (G.1 + h)), (1, .int a1)] := hl
  refine lv_iload_n hx hb dX9_isMark_0 rfl (lv_at hl 1 rfl) ?_
  refine lv_iconst (v := 1) hx hb dX9_isMark_1 (by decide) ?_
  refine lv_aload_n hx hb dX9_isMark_2 rfl (lv_at hl 0 rfl) ?_
  refine mw_get (ci := 9) (v := .ref (G.1 + (h + 1))) (C := RX9) (T := TX9) (N := 8) hx hb ht inX9 hown hSt hP kh (by decide) (mk9 kh) rfl 0 (by decide) (ht _ wf_RX9_10) rfl rfl dX9_isMark_3 ?_
  refine mw_get (ci := 8) (v := .ref (G.1 + (h + 1 + 1))) (C := RX8) (T := TX8) (N := 4) hx hb ht inX8 hown hSt hP (ks9_0 kh) (by decide) (mk8 (ks9_0 kh)) rfl 0 (by decide) (ht _ wf_RX9_63) rfl rfl dX9_isMark_6 ?_
  refine mw_get (ci := 1) (v := .int (M (h + 1 + 1) 6)) (C := RX1) (T := TX1) (N := 9) hx hb ht inX1 hown hSt hP (ks8_0 (ks9_0 kh)) (by decide) (mk1 (ks8_0 (ks9_0 kh))) rfl 6 (by decide) (ht _ wf_RX9_75) rfl rfl dX9_isMark_9 ?_
  refine lv_ishl hx hb dX9_isMark_12 ?_
  refine lv_iconst (v := 1) hx hb dX9_isMark_13 (by decide) ?_
  refine lv_isub hx hb dX9_isMark_14 ?_
  refine mw_Sx (As := [.int a1, .int ((ish 1 (M (h + 1 + 1) 6)) - 1)]) (rest := []) (n := 2) ⟨hx, hb, hml, hown, hts⟩ (so_X9_isWithin l G a1 ((ish 1 (M (h + 1 + 1) 6)) - 1) M _ hw) wm_RX9_55 wt_yX9_isWithin wn_RX9 wc_yX9_isWithin (by decide) ⟨Nat.le_of_ble_eq_true rfl, Nat.le_of_ble_eq_true rfl⟩ ⟨rfl, rfl⟩ hSt hTb hP hS rfl hl.1 rfl (Nat.le_of_ble_eq_true rfl) dX9_isMark_15 ⟨Nat.le_refl 0, Nat.le_refl 0⟩ (fun rr_ M_1 H locs hq hP hS => ?_)
  obtain ⟨r_2, rfl, hw⟩ := hq
  obtain ⟨c_3, hw⟩ := hw
  exact W.zret hx hb hr c_3.narrow (mw_end hP hSt hTb hS ⟨_, rfl, hw⟩) hS.2.2 dX9_isMark_18
def b_X9_sheep_32 (h : Nat) (Q : Int32 → Mem → Prop) (M : Mem) : Prop :=
  wp_X9_refuse h 1 M (fun r_2 M_1 => Q r_2 M_1)
def wp_X9_sheep (h : Nat) (a1 : Int32) (a2 : Int32) (a3 : Int32) (a4 : Int32) (M : Mem) (Q : Int32 → Mem → Prop) : Prop :=
  kdT h = 9 ∧ (wp_X9_isKindWithM a1 M (fun r_4 M_3 => (r_4 = 0 → b_X9_sheep_32 h Q M_3) ∧ (¬ r_4 = 0 → wp_X9_isCell a2 M_3 (fun r_7 M_6 => (r_7 = 0 → b_X9_sheep_32 h Q M_6) ∧ (¬ r_7 = 0 → wp_X9_isWithin a3 99 M_6 (fun r_10 M_9 => (r_10 = 0 → b_X9_sheep_32 h Q M_9) ∧ (¬ r_10 = 0 → wp_X9_isMark h a4 M_9 (fun r_13 M_12 => (¬ r_13 = 0 → ∀ x_15, x_15 = M_12 (h + 1 + 1) 7 → (x_15 < 7 → vp_in x_15 7 ∧ (∀ q_18, q_18 = h + 1 + 1 + 13 + 9 + x_15.toNatClampNeg → ∀ M_19, M_19 = mu M_12 q_18 0 (a1 / 10) → ∀ M_20, M_20 = mu M_19 q_18 1 (irm a1 10) → ∀ M_21, M_21 = mu M_20 q_18 2 a2 → ∀ M_22, M_22 = mu M_21 q_18 3 a3 → ∀ M_23, M_23 = mu M_22 q_18 4 a4 → ∀ M_24, M_24 = mu M_23 q_18 5 0 → ∀ M_25, M_25 = mu M_24 (h + 1 + 1) 7 (x_15 + 1) → Q x_15 M_25)) ∧ (¬ x_15 < 7 → wp_X9_refuse h 4 M_12 (fun r_27 M_26 => Q r_27 M_26))) ∧ (r_13 = 0 → b_X9_sheep_32 h Q M_12)))))))))
set_option maxHeartbeats 4000000 in
set_option maxRecDepth 100000 in
theorem so_X9_sheep (l : Launch) (G : Gm) (h : Nat) (a1 : Int32) (a2 : Int32) (a3 : Int32) (a4 : Int32) (M : Mem) (Q : Int32 → Mem → Prop) (hw : wp_X9_sheep h a1 a2 a3 a4 M Q) : Ct l G yX9_sheep cX9_sheep 7 (some .int) ({ frames := 2, cells := 0, slots := 0, locals := 42 } : Room) [.ref (G.1 + h), .int a1, .int a2, .int a3, .int a4] M (Qi Q) := by
  unfold wp_X9_sheep at hw
  obtain ⟨kh, hw⟩ := hw
  refine ct_of (by decide) (Nat.le_of_ble_eq_true rfl) ?_
  intro p e s m below meth c E_ ls H hl hP hS
  obtain ⟨hx, hb, hml, hown, hts, ht, hr, hlocks, hSt, hTb⟩ := E_
  have hl : lv_has ls 7 [(0, .ref (G.1 + h)), (1, .int a1), (2, .int a2), (3, .int a3), (4, .int a4)] := hl
  have J_32 : ∀  (M : Mem) (H : Heap) (locs : List Loc) (ls : Array Slot), b_X9_sheep_32 h Q M → va_P G.2.1 clsA (wl G M) H → va_S (inW G) s.heap H locs → lv_has ls 7 [(0, .ref (G.1 + h))] → W p l e ({ frames := 2, cells := 0, slots := 0, locals := 42 } : Room) s m ([.ref (G.1 + h), .int a1, .int a2, .int a3, .int a4] : List Value).toArray below meth c H locs 0 0 (MQ below (Pq G (Qi Q)) ([.ref (G.1 + h), .int a1, .int a2, .int a3, .int a4] : List Value).toArray s 0 0 (inW G)) (F0 m 32 ls []) := by
    intro  M H locs ls  hw hP hS hl
    unfold b_X9_sheep_32 at hw
    refine lv_aload_n hx hb dX9_sheep_32 rfl (lv_at hl 0 rfl) ?_
    refine lv_iconst (v := 1) hx hb dX9_sheep_33 (by decide) ?_
    refine mw_V (As := [.int 1]) (rest := []) (T := TX9) (N := 8) (n := 1) ⟨hx, hb, hml, hown, hts⟩ (so_X9_refuse l G h 1 M _ hw) wm_RX9_59 wi_yX9_refuse wv_yX9_refuse wn_RX9 wc_yX9_refuse (by decide) ⟨Nat.le_of_ble_eq_true rfl, Nat.le_of_ble_eq_true rfl⟩ ⟨rfl, rfl⟩ kh (by decide) (mk9 kh) rfl hSt hTb hP hS rfl hl.1 rfl (Nat.le_of_ble_eq_true rfl) dX9_sheep_34 ⟨Nat.le_refl 0, Nat.le_refl 0⟩ (fun rr_ M_1 H locs hq hP hS => ?_)
    obtain ⟨r_2, rfl, hw⟩ := hq
    exact W.iret hx hb hr (mw_end hP hSt hTb hS ⟨_, rfl, hw⟩) hS.2.2 dX9_sheep_37
  refine lv_iload_n hx hb dX9_sheep_0 rfl (lv_at hl 1 rfl) ?_
  refine mw_Sx (As := [.int a1]) (rest := []) (n := 1) ⟨hx, hb, hml, hown, hts⟩ (so_X9_isKindWithM l G a1 M _ hw) wm_RX9_97 wt_yX9_isKindWithM wn_RX9 wc_yX9_isKindWithM (by decide) ⟨Nat.le_of_ble_eq_true rfl, Nat.le_of_ble_eq_true rfl⟩ ⟨rfl, rfl⟩ hSt hTb hP hS rfl hl.1 rfl (Nat.le_of_ble_eq_true rfl) dX9_sheep_1 ⟨Nat.le_refl 0, Nat.le_refl 0⟩ (fun rr_ M_3 H locs hq hP hS => ?_)
  obtain ⟨r_4, rfl, hw⟩ := hq
  refine lv_if_eq (tgt := 32) hx hb dX9_sheep_4 (by decide) (fun c_5 => ?_) (fun c_5 => ?_)
  · have hw := hw.1 c_5
    exact J_32 M_3 _ _ _ hw hP hS (lv_sub hl [0] rfl)
  · have hw := hw.2 c_5
    refine lv_iload_n hx hb dX9_sheep_7 rfl (lv_at hl 2 rfl) ?_
    refine mw_Sx (As := [.int a2]) (rest := []) (n := 1) ⟨hx, hb, hml, hown, hts⟩ (so_X9_isCell l G a2 M_3 _ hw) wm_RX9_51 wt_yX9_isCell wn_RX9 wc_yX9_isCell (by decide) ⟨Nat.le_of_ble_eq_true rfl, Nat.le_of_ble_eq_true rfl⟩ ⟨rfl, rfl⟩ hSt hTb hP hS rfl hl.1 rfl (Nat.le_of_ble_eq_true rfl) dX9_sheep_8 ⟨Nat.le_refl 0, Nat.le_refl 0⟩ (fun rr_ M_6 H locs hq hP hS => ?_)
    obtain ⟨r_7, rfl, hw⟩ := hq
    refine lv_if_eq (tgt := 32) hx hb dX9_sheep_11 (by decide) (fun c_8 => ?_) (fun c_8 => ?_)
    · have hw := hw.1 c_8
      exact J_32 M_6 _ _ _ hw hP hS (lv_sub hl [0] rfl)
    · have hw := hw.2 c_8
      refine lv_iload_n hx hb dX9_sheep_14 rfl (lv_at hl 3 rfl) ?_
      refine lv_bipush (v := 99) hx hb dX9_sheep_15 (by decide) ?_
      refine mw_Sx (As := [.int a3, .int 99]) (rest := []) (n := 2) ⟨hx, hb, hml, hown, hts⟩ (so_X9_isWithin l G a3 99 M_6 _ hw) wm_RX9_55 wt_yX9_isWithin wn_RX9 wc_yX9_isWithin (by decide) ⟨Nat.le_of_ble_eq_true rfl, Nat.le_of_ble_eq_true rfl⟩ ⟨rfl, rfl⟩ hSt hTb hP hS rfl hl.1 rfl (Nat.le_of_ble_eq_true rfl) dX9_sheep_17 ⟨Nat.le_refl 0, Nat.le_refl 0⟩ (fun rr_ M_9 H locs hq hP hS => ?_)
      obtain ⟨r_10, rfl, hw⟩ := hq
      refine lv_if_eq (tgt := 32) hx hb dX9_sheep_20 (by decide) (fun c_11 => ?_) (fun c_11 => ?_)
      · have hw := hw.1 c_11
        exact J_32 M_9 _ _ _ hw hP hS (lv_sub hl [0] rfl)
      · have hw := hw.2 c_11
        refine lv_aload_n hx hb dX9_sheep_23 rfl (lv_at hl 0 rfl) ?_
        refine lv_iload hx hb dX9_sheep_24 (lv_at hl 4 rfl) ?_
        refine mw_V (As := [.int a4]) (rest := []) (T := TX9) (N := 8) (n := 1) ⟨hx, hb, hml, hown, hts⟩ (so_X9_isMark l G h a4 M_9 _ hw) wm_RX9_100 wi_yX9_isMark wv_yX9_isMark wn_RX9 wc_yX9_isMark (by decide) ⟨Nat.le_of_ble_eq_true rfl, Nat.le_of_ble_eq_true rfl⟩ ⟨rfl, rfl⟩ kh (by decide) (mk9 kh) rfl hSt hTb hP hS rfl hl.1 rfl (Nat.le_of_ble_eq_true rfl) dX9_sheep_26 ⟨Nat.le_refl 0, Nat.le_refl 0⟩ (fun rr_ M_12 H locs hq hP hS => ?_)
        obtain ⟨r_13, rfl, hw⟩ := hq
        refine lv_if_ne (tgt := 38) hx hb dX9_sheep_29 (by decide) (fun c_14 => ?_) (fun c_14 => ?_)
        · have hw := hw.1 c_14
          refine lv_aload_n hx hb dX9_sheep_38 rfl (lv_at hl 0 rfl) ?_
          refine mw_get (ci := 9) (v := .ref (G.1 + (h + 1))) (C := RX9) (T := TX9) (N := 8) hx hb ht inX9 hown hSt hP kh (by decide) (mk9 kh) rfl 0 (by decide) (ht _ wf_RX9_10) rfl rfl dX9_sheep_39 ?_
          refine mw_get (ci := 8) (v := .ref (G.1 + (h + 1 + 1))) (C := RX8) (T := TX8) (N := 4) hx hb ht inX8 hown hSt hP (ks9_0 kh) (by decide) (mk8 (ks9_0 kh)) rfl 0 (by decide) (ht _ wf_RX9_63) rfl rfl dX9_sheep_42 ?_
          refine mw_get (ci := 1) (v := .int (M_12 (h + 1 + 1) 7)) (C := RX1) (T := TX1) (N := 9) hx hb ht inX1 hown hSt hP (ks8_0 (ks9_0 kh)) (by decide) (mk1 (ks8_0 (ks9_0 kh))) rfl 7 (by decide) (ht _ wf_RX9_103) rfl rfl dX9_sheep_45 ?_
          refine lv_topi (fun x_15 ex_15 => ?_)
          have hw := hw x_15 ex_15
          refine lv_istore (lv' := [(5, .int x_15), (0, .ref (G.1 + h)), (1, .int a1), (2, .int a2), (3, .int a3), (4, .int a4)]) hx hb dX9_sheep_48 hl (by decide) rfl (fun ls hl => ?_)
          refine lv_iload hx hb dX9_sheep_50 (lv_at hl 0 rfl) ?_
          refine lv_bipush (v := 7) hx hb dX9_sheep_52 (by decide) ?_
          refine lv_icmp_lt (tgt := 63) hx hb dX9_sheep_54 (by decide) (fun c_16 => ?_) (fun c_16 => ?_)
          · have hw := hw.1 c_16
            refine lv_aload_n hx hb dX9_sheep_63 rfl (lv_at hl 1 rfl) ?_
            refine mw_get (ci := 9) (v := .ref (G.1 + (h + 1))) (C := RX9) (T := TX9) (N := 8) hx hb ht inX9 hown hSt hP kh (by decide) (mk9 kh) rfl 0 (by decide) (ht _ wf_RX9_10) rfl rfl dX9_sheep_64 ?_
            refine mw_get (ci := 8) (v := .ref (G.1 + (h + 1 + 1))) (C := RX8) (T := TX8) (N := 4) hx hb ht inX8 hown hSt hP (ks9_0 kh) (by decide) (mk8 (ks9_0 kh)) rfl 0 (by decide) (ht _ wf_RX9_63) rfl rfl dX9_sheep_67 ?_
            refine mw_get (ci := 1) (v := .ref (G.1 + (h + 1 + 1 + 13))) (C := RX1) (T := TX1) (N := 9) hx hb ht inX1 hown hSt hP (ks8_0 (ks9_0 kh)) (by decide) (mk1 (ks8_0 (ks9_0 kh))) rfl 4 (by decide) (ht _ wf_RX9_106) rfl rfl dX9_sheep_70 ?_
            refine lv_iload hx hb dX9_sheep_73 (lv_at hl 0 rfl) ?_
            obtain ⟨c_17, hw⟩ := hw
            refine mw_aald13 hx hb hSt hP (ks1_4 (ks8_0 (ks9_0 kh))) (by rw [(ln1_4 (ks8_0 (ks9_0 kh)))]; exact c_17) dX9_sheep_75 ?_
            obtain ⟨q_18, eq_18⟩ : ∃ z, z = h + 1 + 1 + 13 + 9 + x_15.toNatClampNeg := ⟨_, rfl⟩
            have hw := hw q_18 eq_18
            have kq_18 : kdT q_18 = 5 := by rw [eq_18]; exact (ke13 (ks1_4 (ks8_0 (ks9_0 kh))) (vp_lt (by rw [(ln1_4 (ks8_0 (ks9_0 kh)))]; exact c_17)))
            rw [← eq_18]
            refine lv_astore (lv' := [(6, .ref (G.1 + q_18)), (5, .int x_15), (0, .ref (G.1 + h)), (1, .int a1), (2, .int a2), (3, .int a3), (4, .int a4)]) hx hb dX9_sheep_76 hl (by decide) rfl (fun ls hl => ?_)
            refine lv_aload hx hb dX9_sheep_78 (lv_at hl 0 rfl) ?_
            refine lv_iload_n hx hb dX9_sheep_80 rfl (lv_at hl 3 rfl) ?_
            refine lv_bipush (v := 10) hx hb dX9_sheep_81 (by decide) ?_
            refine lv_idiv hx hb dX9_sheep_83 (by decide) ?_
            refine mw_put (ci := 5) (v := a1 / 10) (ty := .int) (C := RX5) (T := TX5) (N := 6) hx hb ht inX5 tyX5 tyX5_ok nmX5 hown hSt hP hS kq_18 (by decide) (mk5 kq_18) rfl 0 (by decide) (ht _ wf_RX9_110) rfl rfl (by decide +kernel) (vp_nar_int _) rfl (Nat.le_of_ble_eq_true rfl) (by rw [mk5 kq_18]; simp [mu]) dX9_sheep_84 (fun M_19 H locs eM_19 hP hS => ?_)
            have hw := hw M_19 eM_19
            refine lv_aload hx hb dX9_sheep_87 (lv_at hl 0 rfl) ?_
            refine lv_iload_n hx hb dX9_sheep_89 rfl (lv_at hl 3 rfl) ?_
            refine lv_bipush (v := 10) hx hb dX9_sheep_90 (by decide) ?_
            refine lv_irem hx hb dX9_sheep_92 (by decide) ?_
            refine mw_put (ci := 5) (v := irm a1 10) (ty := .int) (C := RX5) (T := TX5) (N := 6) hx hb ht inX5 tyX5 tyX5_ok nmX5 hown hSt hP hS kq_18 (by decide) (mk5 kq_18) rfl 1 (by decide) (ht _ wf_RX9_115) rfl rfl (by decide +kernel) (vp_nar_int _) rfl (Nat.le_of_ble_eq_true rfl) (by rw [mk5 kq_18]; simp [mu]) dX9_sheep_93 (fun M_20 H locs eM_20 hP hS => ?_)
            have hw := hw M_20 eM_20
            refine lv_aload hx hb dX9_sheep_96 (lv_at hl 0 rfl) ?_
            refine lv_iload_n hx hb dX9_sheep_98 rfl (lv_at hl 4 rfl) ?_
            refine mw_put (ci := 5) (v := a2) (ty := .int) (C := RX5) (T := TX5) (N := 6) hx hb ht inX5 tyX5 tyX5_ok nmX5 hown hSt hP hS kq_18 (by decide) (mk5 kq_18) rfl 2 (by decide) (ht _ wf_RX9_118) rfl rfl (by decide +kernel) (vp_nar_int _) rfl (Nat.le_of_ble_eq_true rfl) (by rw [mk5 kq_18]; simp [mu]) dX9_sheep_99 (fun M_21 H locs eM_21 hP hS => ?_)
            have hw := hw M_21 eM_21
            refine lv_aload hx hb dX9_sheep_102 (lv_at hl 0 rfl) ?_
            refine lv_iload_n hx hb dX9_sheep_104 rfl (lv_at hl 5 rfl) ?_
            refine mw_put (ci := 5) (v := a3) (ty := .int) (C := RX5) (T := TX5) (N := 6) hx hb ht inX5 tyX5 tyX5_ok nmX5 hown hSt hP hS kq_18 (by decide) (mk5 kq_18) rfl 3 (by decide) (ht _ wf_RX9_121) rfl rfl (by decide +kernel) (vp_nar_int _) rfl (Nat.le_of_ble_eq_true rfl) (by rw [mk5 kq_18]; simp [mu]) dX9_sheep_105 (fun M_22 H locs eM_22 hP hS => ?_)
            have hw := hw M_22 eM_22
            refine lv_aload hx hb dX9_sheep_108 (lv_at hl 0 rfl) ?_
            refine lv_iload hx hb dX9_sheep_110 (lv_at hl 6 rfl) ?_
            refine mw_put (ci := 5) (v := a4) (ty := .int) (C := RX5) (T := TX5) (N := 6) hx hb ht inX5 tyX5 tyX5_ok nmX5 hown hSt hP hS kq_18 (by decide) (mk5 kq_18) rfl 4 (by decide) (ht _ wf_RX9_124) rfl rfl (by decide +kernel) (vp_nar_int _) rfl (Nat.le_of_ble_eq_true rfl) (by rw [mk5 kq_18]; simp [mu]) dX9_sheep_112 (fun M_23 H locs eM_23 hP hS => ?_)
            have hw := hw M_23 eM_23
            refine lv_aload hx hb dX9_sheep_115 (lv_at hl 0 rfl) ?_
            refine lv_iconst (v := 0) hx hb dX9_sheep_117 (by decide) ?_
            refine mw_put (ci := 5) (v := 0) (ty := .boolean) (C := RX5) (T := TX5) (N := 6) hx hb ht inX5 tyX5 tyX5_ok nmX5 hown hSt hP hS kq_18 (by decide) (mk5 kq_18) rfl 5 (by decide) (ht _ wf_RX9_127) rfl rfl (by decide +kernel) (by decide) (by decide) (Nat.le_of_ble_eq_true rfl) (by rw [mk5 kq_18]; simp [mu]) dX9_sheep_118 (fun M_24 H locs eM_24 hP hS => ?_)
            have hw := hw M_24 eM_24
            refine lv_aload_n hx hb dX9_sheep_121 rfl (lv_at hl 2 rfl) ?_
            refine mw_get (ci := 9) (v := .ref (G.1 + (h + 1))) (C := RX9) (T := TX9) (N := 8) hx hb ht inX9 hown hSt hP kh (by decide) (mk9 kh) rfl 0 (by decide) (ht _ wf_RX9_10) rfl rfl dX9_sheep_122 ?_
            refine mw_get (ci := 8) (v := .ref (G.1 + (h + 1 + 1))) (C := RX8) (T := TX8) (N := 4) hx hb ht inX8 hown hSt hP (ks9_0 kh) (by decide) (mk8 (ks9_0 kh)) rfl 0 (by decide) (ht _ wf_RX9_63) rfl rfl dX9_sheep_125 ?_
            refine lv_iload hx hb dX9_sheep_128 (lv_at hl 1 rfl) ?_
            refine lv_iconst (v := 1) hx hb dX9_sheep_130 (by decide) ?_
            refine lv_iadd hx hb dX9_sheep_131 ?_
            refine mw_put (ci := 1) (v := x_15 + 1) (ty := .int) (C := RX1) (T := TX1) (N := 9) hx hb ht inX1 tyX1 tyX1_ok nmX1 hown hSt hP hS (ks8_0 (ks9_0 kh)) (by decide) (mk1 (ks8_0 (ks9_0 kh))) rfl 7 (by decide) (ht _ wf_RX9_103) rfl rfl (by decide +kernel) (vp_nar_int _) rfl (Nat.le_of_ble_eq_true rfl) (by rw [mk1 (ks8_0 (ks9_0 kh))]; simp [mu]) dX9_sheep_132 (fun M_25 H locs eM_25 hP hS => ?_)
            have hw := hw M_25 eM_25
            refine lv_iload hx hb dX9_sheep_135 (lv_at hl 1 rfl) ?_
            exact W.iret hx hb hr (mw_end hP hSt hTb hS ⟨_, rfl, hw⟩) hS.2.2 dX9_sheep_137
          · have hw := hw.2 c_16
            refine lv_aload_n hx hb dX9_sheep_57 rfl (lv_at hl 1 rfl) ?_
            refine lv_iconst (v := 4) hx hb dX9_sheep_58 (by decide) ?_
            refine mw_V (As := [.int 4]) (rest := []) (T := TX9) (N := 8) (n := 1) ⟨hx, hb, hml, hown, hts⟩ (so_X9_refuse l G h 4 M_12 _ hw) wm_RX9_59 wi_yX9_refuse wv_yX9_refuse wn_RX9 wc_yX9_refuse (by decide) ⟨Nat.le_of_ble_eq_true rfl, Nat.le_of_ble_eq_true rfl⟩ ⟨rfl, rfl⟩ kh (by decide) (mk9 kh) rfl hSt hTb hP hS rfl hl.1 rfl (Nat.le_of_ble_eq_true rfl) dX9_sheep_59 ⟨Nat.le_refl 0, Nat.le_refl 0⟩ (fun rr_ M_26 H locs hq hP hS => ?_)
            obtain ⟨r_27, rfl, hw⟩ := hq
            exact W.iret hx hb hr (mw_end hP hSt hTb hS ⟨_, rfl, hw⟩) hS.2.2 dX9_sheep_62
        · have hw := hw.2 c_14
          exact J_32 M_12 _ _ _ hw hP hS (lv_sub hl [0] rfl)
def wp_X9_isSheep (h : Nat) (a1 : Int32) (M : Mem) (Q : Int32 → Mem → Prop) : Prop :=
  kdT h = 9 ∧ (wp_X9_isWithin a1 ((M (h + 1 + 1) 7) - 1) M (fun r_2 M_1 => isb r_2 ∧ Q r_2 M_1))
set_option maxHeartbeats 4000000 in
set_option maxRecDepth 100000 in
theorem so_X9_isSheep (l : Launch) (G : Gm) (h : Nat) (a1 : Int32) (M : Mem) (Q : Int32 → Mem → Prop) (hw : wp_X9_isSheep h a1 M Q) : Ct l G yX9_isSheep cX9_isSheep 2 (some .boolean) ({ frames := 1, cells := 0, slots := 0, locals := 21 } : Room) [.ref (G.1 + h), .int a1] M (Qi Q) := by
  unfold wp_X9_isSheep at hw
  obtain ⟨kh, hw⟩ := hw
  refine ct_of (by decide) (Nat.le_of_ble_eq_true rfl) ?_
  intro p e s m below meth c E_ ls H hl hP hS
  obtain ⟨hx, hb, hml, hown, hts, ht, hr, hlocks, hSt, hTb⟩ := E_
  have hl : lv_has ls 2 [(0, .ref (G.1 + h)), (1, .int a1)] := hl
  refine lv_iload_n hx hb dX9_isSheep_0 rfl (lv_at hl 1 rfl) ?_
  refine lv_aload_n hx hb dX9_isSheep_1 rfl (lv_at hl 0 rfl) ?_
  refine mw_get (ci := 9) (v := .ref (G.1 + (h + 1))) (C := RX9) (T := TX9) (N := 8) hx hb ht inX9 hown hSt hP kh (by decide) (mk9 kh) rfl 0 (by decide) (ht _ wf_RX9_10) rfl rfl dX9_isSheep_2 ?_
  refine mw_get (ci := 8) (v := .ref (G.1 + (h + 1 + 1))) (C := RX8) (T := TX8) (N := 4) hx hb ht inX8 hown hSt hP (ks9_0 kh) (by decide) (mk8 (ks9_0 kh)) rfl 0 (by decide) (ht _ wf_RX9_63) rfl rfl dX9_isSheep_5 ?_
  refine mw_get (ci := 1) (v := .int (M (h + 1 + 1) 7)) (C := RX1) (T := TX1) (N := 9) hx hb ht inX1 hown hSt hP (ks8_0 (ks9_0 kh)) (by decide) (mk1 (ks8_0 (ks9_0 kh))) rfl 7 (by decide) (ht _ wf_RX9_103) rfl rfl dX9_isSheep_8 ?_
  refine lv_iconst (v := 1) hx hb dX9_isSheep_11 (by decide) ?_
  refine lv_isub hx hb dX9_isSheep_12 ?_
  refine mw_Sx (As := [.int a1, .int ((M (h + 1 + 1) 7) - 1)]) (rest := []) (n := 2) ⟨hx, hb, hml, hown, hts⟩ (so_X9_isWithin l G a1 ((M (h + 1 + 1) 7) - 1) M _ hw) wm_RX9_55 wt_yX9_isWithin wn_RX9 wc_yX9_isWithin (by decide) ⟨Nat.le_of_ble_eq_true rfl, Nat.le_of_ble_eq_true rfl⟩ ⟨rfl, rfl⟩ hSt hTb hP hS rfl hl.1 rfl (Nat.le_of_ble_eq_true rfl) dX9_isSheep_13 ⟨Nat.le_refl 0, Nat.le_refl 0⟩ (fun rr_ M_1 H locs hq hP hS => ?_)
  obtain ⟨r_2, rfl, hw⟩ := hq
  obtain ⟨c_3, hw⟩ := hw
  exact W.zret hx hb hr c_3.narrow (mw_end hP hSt hTb hS ⟨_, rfl, hw⟩) hS.2.2 dX9_isSheep_16
def wp_X9_ofSheep (h : Nat) (a1 : Int32) (a2 : Int32) (M : Mem) (Q : Int32 → Mem → Prop) : Prop :=
  kdT h = 9 ∧ (wp_X9_isSheep h a1 M (fun r_2 M_1 => (¬ r_2 = 0 → vp_in a1 7 ∧ (∀ q_5, q_5 = h + 1 + 1 + 13 + 9 + a1.toNatClampNeg → (a2 = 0 → Q (M_1 q_5 0) M_1) ∧ (a2 = 1 → Q (M_1 q_5 1) M_1) ∧ (a2 = 2 → Q (M_1 q_5 2) M_1) ∧ (a2 = 3 → Q (M_1 q_5 3) M_1) ∧ (a2 = 4 → Q (M_1 q_5 4) M_1) ∧ (a2 = 5 → ((M_1 q_5 5) = 0 → Q 0 M_1) ∧ (¬ (M_1 q_5 5) = 0 → Q 1 M_1)) ∧ (a2 = 6 → wp_X5_heard q_5 (M_1 (h + 1 + 1) 8) M_1 (fun r_15 M_14 => Q r_15 M_14)) ∧ (a2 = 7 → wp_X5_cold q_5 (M_1 (h + 1 + 1) 8) M_1 (fun r_18 M_17 => Q r_18 M_17)) ∧ (¬ a2 = 0 → ¬ a2 = 1 → ¬ a2 = 2 → ¬ a2 = 3 → ¬ a2 = 4 → ¬ a2 = 5 → ¬ a2 = 6 → ¬ a2 = 7 → wp_X9_refuse h 1 M_1 (fun r_20 M_19 => Q r_20 M_19)))) ∧ (r_2 = 0 → wp_X9_refuse h 1 M_1 (fun r_22 M_21 => Q r_22 M_21))))
set_option maxHeartbeats 4000000 in
set_option maxRecDepth 100000 in
theorem so_X9_ofSheep (l : Launch) (G : Gm) (h : Nat) (a1 : Int32) (a2 : Int32) (M : Mem) (Q : Int32 → Mem → Prop) (hw : wp_X9_ofSheep h a1 a2 M Q) : Ct l G yX9_ofSheep cX9_ofSheep 4 (some .int) ({ frames := 3, cells := 0, slots := 0, locals := 101 } : Room) [.ref (G.1 + h), .int a1, .int a2] M (Qi Q) := by
  unfold wp_X9_ofSheep at hw
  obtain ⟨kh, hw⟩ := hw
  refine ct_of (by decide) (Nat.le_of_ble_eq_true rfl) ?_
  intro p e s m below meth c E_ ls H hl hP hS
  obtain ⟨hx, hb, hml, hown, hts, ht, hr, hlocks, hSt, hTb⟩ := E_
  have hl : lv_has ls 4 [(0, .ref (G.1 + h)), (1, .int a1), (2, .int a2)] := hl
  refine lv_aload_n hx hb dX9_ofSheep_0 rfl (lv_at hl 0 rfl) ?_
  refine lv_iload_n hx hb dX9_ofSheep_1 rfl (lv_at hl 1 rfl) ?_
  refine mw_V (As := [.int a1]) (rest := []) (T := TX9) (N := 8) (n := 1) ⟨hx, hb, hml, hown, hts⟩ (so_X9_isSheep l G h a1 M _ hw) wm_RX9_131 wi_yX9_isSheep wv_yX9_isSheep wn_RX9 wc_yX9_isSheep (by decide) ⟨Nat.le_of_ble_eq_true rfl, Nat.le_of_ble_eq_true rfl⟩ ⟨rfl, rfl⟩ kh (by decide) (mk9 kh) rfl hSt hTb hP hS rfl hl.1 rfl (Nat.le_of_ble_eq_true rfl) dX9_ofSheep_2 ⟨Nat.le_refl 0, Nat.le_refl 0⟩ (fun rr_ M_1 H locs hq hP hS => ?_)
  obtain ⟨r_2, rfl, hw⟩ := hq
  refine lv_if_ne (tgt := 14) hx hb dX9_ofSheep_5 (by decide) (fun c_3 => ?_) (fun c_3 => ?_)
  · have hw := hw.1 c_3
    refine lv_aload_n hx hb dX9_ofSheep_14 rfl (lv_at hl 0 rfl) ?_
    refine mw_get (ci := 9) (v := .ref (G.1 + (h + 1))) (C := RX9) (T := TX9) (N := 8) hx hb ht inX9 hown hSt hP kh (by decide) (mk9 kh) rfl 0 (by decide) (ht _ wf_RX9_10) rfl rfl dX9_ofSheep_15 ?_
    refine mw_get (ci := 8) (v := .ref (G.1 + (h + 1 + 1))) (C := RX8) (T := TX8) (N := 4) hx hb ht inX8 hown hSt hP (ks9_0 kh) (by decide) (mk8 (ks9_0 kh)) rfl 0 (by decide) (ht _ wf_RX9_63) rfl rfl dX9_ofSheep_18 ?_
    refine mw_get (ci := 1) (v := .ref (G.1 + (h + 1 + 1 + 13))) (C := RX1) (T := TX1) (N := 9) hx hb ht inX1 hown hSt hP (ks8_0 (ks9_0 kh)) (by decide) (mk1 (ks8_0 (ks9_0 kh))) rfl 4 (by decide) (ht _ wf_RX9_106) rfl rfl dX9_ofSheep_21 ?_
    refine lv_iload_n hx hb dX9_ofSheep_24 rfl (lv_at hl 1 rfl) ?_
    obtain ⟨c_4, hw⟩ := hw
    refine mw_aald13 hx hb hSt hP (ks1_4 (ks8_0 (ks9_0 kh))) (by rw [(ln1_4 (ks8_0 (ks9_0 kh)))]; exact c_4) dX9_ofSheep_25 ?_
    obtain ⟨q_5, eq_5⟩ : ∃ z, z = h + 1 + 1 + 13 + 9 + a1.toNatClampNeg := ⟨_, rfl⟩
    have hw := hw q_5 eq_5
    have kq_5 : kdT q_5 = 5 := by rw [eq_5]; exact (ke13 (ks1_4 (ks8_0 (ks9_0 kh))) (vp_lt (by rw [(ln1_4 (ks8_0 (ks9_0 kh)))]; exact c_4)))
    rw [← eq_5]
    refine lv_astore_n (lv' := [(3, .ref (G.1 + q_5)), (0, .ref (G.1 + h)), (1, .int a1), (2, .int a2)]) hx hb dX9_ofSheep_26 rfl hl (by decide) rfl (fun ls hl => ?_)
    refine lv_iload_n hx hb dX9_ofSheep_27 rfl (lv_at hl 3 rfl) ?_
    by_cases c_6 : a2 = 0
    · have hw := hw.1 c_6
      refine mw_tcase (tgt := 76) (off := 48) hx hb dX9_ofSheep_28 c_6 (by decide) ?_
      refine lv_aload_n hx hb dX9_ofSheep_76 rfl (lv_at hl 0 rfl) ?_
      refine mw_get (ci := 5) (v := .int (M_1 q_5 0)) (C := RX5) (T := TX5) (N := 6) hx hb ht inX5 hown hSt hP kq_5 (by decide) (mk5 kq_5) rfl 0 (by decide) (ht _ wf_RX9_110) rfl rfl dX9_ofSheep_77 ?_
      exact W.iret hx hb hr (mw_end hP hSt hTb hS ⟨_, rfl, hw⟩) hS.2.2 dX9_ofSheep_80
    by_cases c_7 : a2 = 1
    · have hw := hw.2.1 c_7
      refine mw_tcase (tgt := 81) (off := 53) hx hb dX9_ofSheep_28 c_7 (by decide) ?_
      refine lv_aload_n hx hb dX9_ofSheep_81 rfl (lv_at hl 0 rfl) ?_
      refine mw_get (ci := 5) (v := .int (M_1 q_5 1)) (C := RX5) (T := TX5) (N := 6) hx hb ht inX5 hown hSt hP kq_5 (by decide) (mk5 kq_5) rfl 1 (by decide) (ht _ wf_RX9_115) rfl rfl dX9_ofSheep_82 ?_
      exact W.iret hx hb hr (mw_end hP hSt hTb hS ⟨_, rfl, hw⟩) hS.2.2 dX9_ofSheep_85
    by_cases c_8 : a2 = 2
    · have hw := hw.2.2.1 c_8
      refine mw_tcase (tgt := 86) (off := 58) hx hb dX9_ofSheep_28 c_8 (by decide) ?_
      refine lv_aload_n hx hb dX9_ofSheep_86 rfl (lv_at hl 0 rfl) ?_
      refine mw_get (ci := 5) (v := .int (M_1 q_5 2)) (C := RX5) (T := TX5) (N := 6) hx hb ht inX5 hown hSt hP kq_5 (by decide) (mk5 kq_5) rfl 2 (by decide) (ht _ wf_RX9_118) rfl rfl dX9_ofSheep_87 ?_
      exact W.iret hx hb hr (mw_end hP hSt hTb hS ⟨_, rfl, hw⟩) hS.2.2 dX9_ofSheep_90
    by_cases c_9 : a2 = 3
    · have hw := hw.2.2.2.1 c_9
      refine mw_tcase (tgt := 91) (off := 63) hx hb dX9_ofSheep_28 c_9 (by decide) ?_
      refine lv_aload_n hx hb dX9_ofSheep_91 rfl (lv_at hl 0 rfl) ?_
      refine mw_get (ci := 5) (v := .int (M_1 q_5 3)) (C := RX5) (T := TX5) (N := 6) hx hb ht inX5 hown hSt hP kq_5 (by decide) (mk5 kq_5) rfl 3 (by decide) (ht _ wf_RX9_121) rfl rfl dX9_ofSheep_92 ?_
      exact W.iret hx hb hr (mw_end hP hSt hTb hS ⟨_, rfl, hw⟩) hS.2.2 dX9_ofSheep_95
    by_cases c_10 : a2 = 4
    · have hw := hw.2.2.2.2.1 c_10
      refine mw_tcase (tgt := 96) (off := 68) hx hb dX9_ofSheep_28 c_10 (by decide) ?_
      refine lv_aload_n hx hb dX9_ofSheep_96 rfl (lv_at hl 0 rfl) ?_
      refine mw_get (ci := 5) (v := .int (M_1 q_5 4)) (C := RX5) (T := TX5) (N := 6) hx hb ht inX5 hown hSt hP kq_5 (by decide) (mk5 kq_5) rfl 4 (by decide) (ht _ wf_RX9_124) rfl rfl dX9_ofSheep_97 ?_
      exact W.iret hx hb hr (mw_end hP hSt hTb hS ⟨_, rfl, hw⟩) hS.2.2 dX9_ofSheep_100
    by_cases c_11 : a2 = 5
    · have hw := hw.2.2.2.2.2.1 c_11
      refine mw_tcase (tgt := 101) (off := 73) hx hb dX9_ofSheep_28 c_11 (by decide) ?_
      refine lv_aload_n hx hb dX9_ofSheep_101 rfl (lv_at hl 0 rfl) ?_
      refine mw_get (ci := 5) (v := .int (M_1 q_5 5)) (C := RX5) (T := TX5) (N := 6) hx hb ht inX5 hown hSt hP kq_5 (by decide) (mk5 kq_5) rfl 5 (by decide) (ht _ wf_RX9_127) rfl rfl dX9_ofSheep_102 ?_
      refine lv_if_eq (tgt := 112) hx hb dX9_ofSheep_105 (by decide) (fun c_12 => ?_) (fun c_12 => ?_)
      · have hw := hw.1 c_12
        refine lv_iconst (v := 0) hx hb dX9_ofSheep_112 (by decide) ?_
        exact W.iret hx hb hr (mw_end hP hSt hTb hS ⟨_, rfl, hw⟩) hS.2.2 dX9_ofSheep_113
      · have hw := hw.2 c_12
        refine lv_iconst (v := 1) hx hb dX9_ofSheep_108 (by decide) ?_
        refine lv_goto (tgt := 113) hx hb dX9_ofSheep_109 (by decide) ?_
        exact W.iret hx hb hr (mw_end hP hSt hTb hS ⟨_, rfl, hw⟩) hS.2.2 dX9_ofSheep_113
    by_cases c_13 : a2 = 6
    · have hw := hw.2.2.2.2.2.2.1 c_13
      refine mw_tcase (tgt := 114) (off := 86) hx hb dX9_ofSheep_28 c_13 (by decide) ?_
      refine lv_aload_n hx hb dX9_ofSheep_114 rfl (lv_at hl 0 rfl) ?_
      refine lv_aload_n hx hb dX9_ofSheep_115 rfl (lv_at hl 1 rfl) ?_
      refine mw_get (ci := 9) (v := .ref (G.1 + (h + 1))) (C := RX9) (T := TX9) (N := 8) hx hb ht inX9 hown hSt hP kh (by decide) (mk9 kh) rfl 0 (by decide) (ht _ wf_RX9_10) rfl rfl dX9_ofSheep_116 ?_
      refine mw_get (ci := 8) (v := .ref (G.1 + (h + 1 + 1))) (C := RX8) (T := TX8) (N := 4) hx hb ht inX8 hown hSt hP (ks9_0 kh) (by decide) (mk8 (ks9_0 kh)) rfl 0 (by decide) (ht _ wf_RX9_63) rfl rfl dX9_ofSheep_119 ?_
      refine mw_get (ci := 1) (v := .int (M_1 (h + 1 + 1) 8)) (C := RX1) (T := TX1) (N := 9) hx hb ht inX1 hown hSt hP (ks8_0 (ks9_0 kh)) (by decide) (mk1 (ks8_0 (ks9_0 kh))) rfl 8 (by decide) (ht _ wf_RX9_134) rfl rfl dX9_ofSheep_122 ?_
      refine mw_V (As := [.int (M_1 (h + 1 + 1) 8)]) (rest := []) (T := TX5) (N := 6) (n := 1) ⟨hx, hb, hml, hown, hts⟩ (so_X5_heard l G q_5 (M_1 (h + 1 + 1) 8) M_1 _ hw) wm_RX9_137 wi_yX5_heard wv_yX5_heard wn_RX5 wc_yX5_heard (by decide) ⟨Nat.le_of_ble_eq_true rfl, Nat.le_of_ble_eq_true rfl⟩ ⟨rfl, rfl⟩ kq_5 (by decide) (mk5 kq_5) rfl hSt hTb hP hS rfl hl.1 rfl (Nat.le_of_ble_eq_true rfl) dX9_ofSheep_125 ⟨Nat.le_refl 0, Nat.le_refl 0⟩ (fun rr_ M_14 H locs hq hP hS => ?_)
      obtain ⟨r_15, rfl, hw⟩ := hq
      exact W.iret hx hb hr (mw_end hP hSt hTb hS ⟨_, rfl, hw⟩) hS.2.2 dX9_ofSheep_128
    by_cases c_16 : a2 = 7
    · have hw := hw.2.2.2.2.2.2.2.1 c_16
      refine mw_tcase (tgt := 129) (off := 101) hx hb dX9_ofSheep_28 c_16 (by decide) ?_
      refine lv_aload_n hx hb dX9_ofSheep_129 rfl (lv_at hl 0 rfl) ?_
      refine lv_aload_n hx hb dX9_ofSheep_130 rfl (lv_at hl 1 rfl) ?_
      refine mw_get (ci := 9) (v := .ref (G.1 + (h + 1))) (C := RX9) (T := TX9) (N := 8) hx hb ht inX9 hown hSt hP kh (by decide) (mk9 kh) rfl 0 (by decide) (ht _ wf_RX9_10) rfl rfl dX9_ofSheep_131 ?_
      refine mw_get (ci := 8) (v := .ref (G.1 + (h + 1 + 1))) (C := RX8) (T := TX8) (N := 4) hx hb ht inX8 hown hSt hP (ks9_0 kh) (by decide) (mk8 (ks9_0 kh)) rfl 0 (by decide) (ht _ wf_RX9_63) rfl rfl dX9_ofSheep_134 ?_
      refine mw_get (ci := 1) (v := .int (M_1 (h + 1 + 1) 8)) (C := RX1) (T := TX1) (N := 9) hx hb ht inX1 hown hSt hP (ks8_0 (ks9_0 kh)) (by decide) (mk1 (ks8_0 (ks9_0 kh))) rfl 8 (by decide) (ht _ wf_RX9_134) rfl rfl dX9_ofSheep_137 ?_
      refine mw_V (As := [.int (M_1 (h + 1 + 1) 8)]) (rest := []) (T := TX5) (N := 6) (n := 1) ⟨hx, hb, hml, hown, hts⟩ (so_X5_cold l G q_5 (M_1 (h + 1 + 1) 8) M_1 _ hw) wm_RX9_140 wi_yX5_cold wv_yX5_cold wn_RX5 wc_yX5_cold (by decide) ⟨Nat.le_of_ble_eq_true rfl, Nat.le_of_ble_eq_true rfl⟩ ⟨rfl, rfl⟩ kq_5 (by decide) (mk5 kq_5) rfl hSt hTb hP hS rfl hl.1 rfl (Nat.le_of_ble_eq_true rfl) dX9_ofSheep_140 ⟨Nat.le_refl 0, Nat.le_refl 0⟩ (fun rr_ M_17 H locs hq hP hS => ?_)
      obtain ⟨r_18, rfl, hw⟩ := hq
      exact W.iret hx hb hr (mw_end hP hSt hTb hS ⟨_, rfl, hw⟩) hS.2.2 dX9_ofSheep_143
    have hw := hw.2.2.2.2.2.2.2.2 c_6 c_7 c_8 c_9 c_10 c_11 c_13 c_16
    refine mw_tdef (keys := [0, 1, 2, 3, 4, 5, 6, 7]) (tgt := 144) hx hb dX9_ofSheep_28 (List.forall_mem_cons.mpr ⟨c_6, (List.forall_mem_cons.mpr ⟨c_7, (List.forall_mem_cons.mpr ⟨c_8, (List.forall_mem_cons.mpr ⟨c_9, (List.forall_mem_cons.mpr ⟨c_10, (List.forall_mem_cons.mpr ⟨c_11, (List.forall_mem_cons.mpr ⟨c_13, (List.forall_mem_cons.mpr ⟨c_16, (fun _ h_ => absurd h_ List.not_mem_nil)⟩)⟩)⟩)⟩)⟩)⟩)⟩)⟩) (by decide) (by decide) ?_
    refine lv_aload_n hx hb dX9_ofSheep_144 rfl (lv_at hl 1 rfl) ?_
    refine lv_iconst (v := 1) hx hb dX9_ofSheep_145 (by decide) ?_
    refine mw_V (As := [.int 1]) (rest := []) (T := TX9) (N := 8) (n := 1) ⟨hx, hb, hml, hown, hts⟩ (so_X9_refuse l G h 1 M_1 _ hw) wm_RX9_59 wi_yX9_refuse wv_yX9_refuse wn_RX9 wc_yX9_refuse (by decide) ⟨Nat.le_of_ble_eq_true rfl, Nat.le_of_ble_eq_true rfl⟩ ⟨rfl, rfl⟩ kh (by decide) (mk9 kh) rfl hSt hTb hP hS rfl hl.1 rfl (Nat.le_of_ble_eq_true rfl) dX9_ofSheep_146 ⟨Nat.le_refl 0, Nat.le_refl 0⟩ (fun rr_ M_19 H locs hq hP hS => ?_)
    obtain ⟨r_20, rfl, hw⟩ := hq
    exact W.iret hx hb hr (mw_end hP hSt hTb hS ⟨_, rfl, hw⟩) hS.2.2 dX9_ofSheep_149
  · have hw := hw.2 c_3
    refine lv_aload_n hx hb dX9_ofSheep_8 rfl (lv_at hl 0 rfl) ?_
    refine lv_iconst (v := 1) hx hb dX9_ofSheep_9 (by decide) ?_
    refine mw_V (As := [.int 1]) (rest := []) (T := TX9) (N := 8) (n := 1) ⟨hx, hb, hml, hown, hts⟩ (so_X9_refuse l G h 1 M_1 _ hw) wm_RX9_59 wi_yX9_refuse wv_yX9_refuse wn_RX9 wc_yX9_refuse (by decide) ⟨Nat.le_of_ble_eq_true rfl, Nat.le_of_ble_eq_true rfl⟩ ⟨rfl, rfl⟩ kh (by decide) (mk9 kh) rfl hSt hTb hP hS rfl hl.1 rfl (Nat.le_of_ble_eq_true rfl) dX9_ofSheep_10 ⟨Nat.le_refl 0, Nat.le_refl 0⟩ (fun rr_ M_21 H locs hq hP hS => ?_)
    obtain ⟨r_22, rfl, hw⟩ := hq
    exact W.iret hx hb hr (mw_end hP hSt hTb hS ⟨_, rfl, hw⟩) hS.2.2 dX9_ofSheep_13
def wp_X9_isChange (h : Nat) (a1 : Int32) (a2 : Int32) (M : Mem) (Q : Int32 → Mem → Prop) : Prop :=
  kdT h = 9 ∧ ((a1 = 0 → wp_X9_isCell a2 M (fun r_3 M_2 => isb r_3 ∧ Q r_3 M_2)) ∧ (a1 = 1 → wp_X9_isWithin a2 99 M (fun r_7 M_6 => isb r_7 ∧ Q r_7 M_6)) ∧ (a1 = 2 → wp_X9_isMark h a2 M (fun r_11 M_10 => isb r_11 ∧ Q r_11 M_10)) ∧ (a1 = 3 → wp_X9_isWithin a2 1 M (fun r_15 M_14 => isb r_15 ∧ Q r_15 M_14)) ∧ (¬ a1 = 0 → ¬ a1 = 1 → ¬ a1 = 2 → ¬ a1 = 3 → Q 0 M))
set_option maxHeartbeats 4000000 in
set_option maxRecDepth 100000 in
theorem so_X9_isChange (l : Launch) (G : Gm) (h : Nat) (a1 : Int32) (a2 : Int32) (M : Mem) (Q : Int32 → Mem → Prop) (hw : wp_X9_isChange h a1 a2 M Q) : Ct l G yX9_isChange cX9_isChange 3 (some .boolean) ({ frames := 2, cells := 0, slots := 0, locals := 42 } : Room) [.ref (G.1 + h), .int a1, .int a2] M (Qi Q) := by
  unfold wp_X9_isChange at hw
  obtain ⟨kh, hw⟩ := hw
  refine ct_of (by decide) (Nat.le_of_ble_eq_true rfl) ?_
  intro p e s m below meth c E_ ls H hl hP hS
  obtain ⟨hx, hb, hml, hown, hts, ht, hr, hlocks, hSt, hTb⟩ := E_
  have hl : lv_has ls 3 [(0, .ref (G.1 + h)), (1, .int a1), (2, .int a2)] := hl
  refine lv_iload_n hx hb dX9_isChange_0 rfl (lv_at hl 1 rfl) ?_
  by_cases c_1 : a1 = 0
  · have hw := hw.1 c_1
    refine mw_tcase (tgt := 32) (off := 31) hx hb dX9_isChange_1 c_1 (by decide) ?_
    refine lv_iload_n hx hb dX9_isChange_32 rfl (lv_at hl 2 rfl) ?_
    refine mw_Sx (As := [.int a2]) (rest := []) (n := 1) ⟨hx, hb, hml, hown, hts⟩ (so_X9_isCell l G a2 M _ hw) wm_RX9_51 wt_yX9_isCell wn_RX9 wc_yX9_isCell (by decide) ⟨Nat.le_of_ble_eq_true rfl, Nat.le_of_ble_eq_true rfl⟩ ⟨rfl, rfl⟩ hSt hTb hP hS rfl hl.1 rfl (Nat.le_of_ble_eq_true rfl) dX9_isChange_33 ⟨Nat.le_refl 0, Nat.le_refl 0⟩ (fun rr_ M_2 H locs hq hP hS => ?_)
    obtain ⟨r_3, rfl, hw⟩ := hq
    obtain ⟨c_4, hw⟩ := hw
    exact W.zret hx hb hr c_4.narrow (mw_end hP hSt hTb hS ⟨_, rfl, hw⟩) hS.2.2 dX9_isChange_36
  by_cases c_5 : a1 = 1
  · have hw := hw.2.1 c_5
    refine mw_tcase (tgt := 37) (off := 36) hx hb dX9_isChange_1 c_5 (by decide) ?_
    refine lv_iload_n hx hb dX9_isChange_37 rfl (lv_at hl 2 rfl) ?_
    refine lv_bipush (v := 99) hx hb dX9_isChange_38 (by decide) ?_
    refine mw_Sx (As := [.int a2, .int 99]) (rest := []) (n := 2) ⟨hx, hb, hml, hown, hts⟩ (so_X9_isWithin l G a2 99 M _ hw) wm_RX9_55 wt_yX9_isWithin wn_RX9 wc_yX9_isWithin (by decide) ⟨Nat.le_of_ble_eq_true rfl, Nat.le_of_ble_eq_true rfl⟩ ⟨rfl, rfl⟩ hSt hTb hP hS rfl hl.1 rfl (Nat.le_of_ble_eq_true rfl) dX9_isChange_40 ⟨Nat.le_refl 0, Nat.le_refl 0⟩ (fun rr_ M_6 H locs hq hP hS => ?_)
    obtain ⟨r_7, rfl, hw⟩ := hq
    obtain ⟨c_8, hw⟩ := hw
    exact W.zret hx hb hr c_8.narrow (mw_end hP hSt hTb hS ⟨_, rfl, hw⟩) hS.2.2 dX9_isChange_43
  by_cases c_9 : a1 = 2
  · have hw := hw.2.2.1 c_9
    refine mw_tcase (tgt := 44) (off := 43) hx hb dX9_isChange_1 c_9 (by decide) ?_
    refine lv_aload_n hx hb dX9_isChange_44 rfl (lv_at hl 0 rfl) ?_
    refine lv_iload_n hx hb dX9_isChange_45 rfl (lv_at hl 2 rfl) ?_
    refine mw_V (As := [.int a2]) (rest := []) (T := TX9) (N := 8) (n := 1) ⟨hx, hb, hml, hown, hts⟩ (so_X9_isMark l G h a2 M _ hw) wm_RX9_100 wi_yX9_isMark wv_yX9_isMark wn_RX9 wc_yX9_isMark (by decide) ⟨Nat.le_of_ble_eq_true rfl, Nat.le_of_ble_eq_true rfl⟩ ⟨rfl, rfl⟩ kh (by decide) (mk9 kh) rfl hSt hTb hP hS rfl hl.1 rfl (Nat.le_of_ble_eq_true rfl) dX9_isChange_46 ⟨Nat.le_refl 0, Nat.le_refl 0⟩ (fun rr_ M_10 H locs hq hP hS => ?_)
    obtain ⟨r_11, rfl, hw⟩ := hq
    obtain ⟨c_12, hw⟩ := hw
    exact W.zret hx hb hr c_12.narrow (mw_end hP hSt hTb hS ⟨_, rfl, hw⟩) hS.2.2 dX9_isChange_49
  by_cases c_13 : a1 = 3
  · have hw := hw.2.2.2.1 c_13
    refine mw_tcase (tgt := 50) (off := 49) hx hb dX9_isChange_1 c_13 (by decide) ?_
    refine lv_iload_n hx hb dX9_isChange_50 rfl (lv_at hl 2 rfl) ?_
    refine lv_iconst (v := 1) hx hb dX9_isChange_51 (by decide) ?_
    refine mw_Sx (As := [.int a2, .int 1]) (rest := []) (n := 2) ⟨hx, hb, hml, hown, hts⟩ (so_X9_isWithin l G a2 1 M _ hw) wm_RX9_55 wt_yX9_isWithin wn_RX9 wc_yX9_isWithin (by decide) ⟨Nat.le_of_ble_eq_true rfl, Nat.le_of_ble_eq_true rfl⟩ ⟨rfl, rfl⟩ hSt hTb hP hS rfl hl.1 rfl (Nat.le_of_ble_eq_true rfl) dX9_isChange_52 ⟨Nat.le_refl 0, Nat.le_refl 0⟩ (fun rr_ M_14 H locs hq hP hS => ?_)
    obtain ⟨r_15, rfl, hw⟩ := hq
    obtain ⟨c_16, hw⟩ := hw
    exact W.zret hx hb hr c_16.narrow (mw_end hP hSt hTb hS ⟨_, rfl, hw⟩) hS.2.2 dX9_isChange_55
  have hw := hw.2.2.2.2 c_1 c_5 c_9 c_13
  refine mw_tdef (keys := [0, 1, 2, 3]) (tgt := 56) hx hb dX9_isChange_1 (List.forall_mem_cons.mpr ⟨c_1, (List.forall_mem_cons.mpr ⟨c_5, (List.forall_mem_cons.mpr ⟨c_9, (List.forall_mem_cons.mpr ⟨c_13, (fun _ h_ => absurd h_ List.not_mem_nil)⟩)⟩)⟩)⟩) (by decide) (by decide) ?_
  refine lv_iconst (v := 0) hx hb dX9_isChange_56 (by decide) ?_
  exact W.zret (v := 0) hx hb hr (by decide) (mw_end hP hSt hTb hS ⟨_, rfl, hw⟩) hS.2.2 dX9_isChange_57
def b_X9_change_139 (h : Nat) (Q : Int32 → Mem → Prop) (v5 : Int32) (s0 : Nat) (s1 : Int32) (M : Mem) : Prop :=
  isb s1 ∧ ∀ M_1, M_1 = mu M s0 5 s1 → Q v5 M_1
def b_X9_change_125 (h : Nat) (Q : Int32 → Mem → Prop) (v3 : Int32) (r4 : Nat) (s0 : Int32) (M : Mem) : Prop :=
  (¬ v3 = 1 → b_X9_change_139 h Q s0 r4 0 M) ∧ (v3 = 1 → b_X9_change_139 h Q s0 r4 1 M)
def b_X9_change_17 (h : Nat) (Q : Int32 → Mem → Prop) (M : Mem) : Prop :=
  wp_X9_refuse h 1 M (fun r_5 M_4 => Q r_5 M_4)
def wp_X9_change (h : Nat) (a1 : Int32) (a2 : Int32) (a3 : Int32) (M : Mem) (Q : Int32 → Mem → Prop) : Prop :=
  kdT h = 9 ∧ (wp_X9_isSheep h a1 M (fun r_7 M_6 => (r_7 = 0 → b_X9_change_17 h Q M_6) ∧ (¬ r_7 = 0 → wp_X9_isChange h a2 a3 M_6 (fun r_10 M_9 => (¬ r_10 = 0 → vp_in a1 7 ∧ (∀ q_13, q_13 = h + 1 + 1 + 13 + 9 + a1.toNatClampNeg → (a2 = 0 → ∀ x_15, x_15 = M_9 q_13 2 → ∀ M_16, M_16 = mu M_9 q_13 2 a3 → Q x_15 M_16) ∧ (a2 = 1 → ∀ x_18, x_18 = M_9 q_13 3 → ∀ M_19, M_19 = mu M_9 q_13 3 a3 → Q x_18 M_19) ∧ (a2 = 2 → ∀ x_21, x_21 = M_9 q_13 4 → ∀ M_22, M_22 = mu M_9 q_13 4 a3 → Q x_21 M_22) ∧ (¬ a2 = 0 → ¬ a2 = 1 → ¬ a2 = 2 → ((M_9 q_13 5) = 0 → b_X9_change_125 h Q a3 q_13 0 M_9) ∧ (¬ (M_9 q_13 5) = 0 → b_X9_change_125 h Q a3 q_13 1 M_9)))) ∧ (r_10 = 0 → b_X9_change_17 h Q M_9)))))
set_option maxHeartbeats 4000000 in
set_option maxRecDepth 100000 in
theorem so_X9_change (l : Launch) (G : Gm) (h : Nat) (a1 : Int32) (a2 : Int32) (a3 : Int32) (M : Mem) (Q : Int32 → Mem → Prop) (hw : wp_X9_change h a1 a2 a3 M Q) : Ct l G yX9_change cX9_change 6 (some .int) ({ frames := 3, cells := 0, slots := 0, locals := 64 } : Room) [.ref (G.1 + h), .int a1, .int a2, .int a3] M (Qi Q) := by
  unfold wp_X9_change at hw
  obtain ⟨kh, hw⟩ := hw
  refine ct_of (by decide) (Nat.le_of_ble_eq_true rfl) ?_
  intro p e s m below meth c E_ ls H hl hP hS
  obtain ⟨hx, hb, hml, hown, hts, ht, hr, hlocks, hSt, hTb⟩ := E_
  have hl : lv_has ls 6 [(0, .ref (G.1 + h)), (1, .int a1), (2, .int a2), (3, .int a3)] := hl
  have J_139 : ∀ (v5 : Int32) (s0 : Nat) (s1 : Int32) (M : Mem) (H : Heap) (locs : List Loc) (ls : Array Slot), kdT s0 = 5 → b_X9_change_139 h Q v5 s0 s1 M → va_P G.2.1 clsA (wl G M) H → va_S (inW G) s.heap H locs → lv_has ls 6 [(0, .ref (G.1 + h)), (5, .int v5)] → W p l e ({ frames := 3, cells := 0, slots := 0, locals := 64 } : Room) s m ([.ref (G.1 + h), .int a1, .int a2, .int a3] : List Value).toArray below meth c H locs 0 0 (MQ below (Pq G (Qi Q)) ([.ref (G.1 + h), .int a1, .int a2, .int a3] : List Value).toArray s 0 0 (inW G)) (F0 m 139 ls [.int s1, .ref (G.1 + s0)]) := by
    intro v5 s0 s1 M H locs ls ks0 hw hP hS hl
    unfold b_X9_change_139 at hw
    obtain ⟨c_2, hw⟩ := hw
    refine mw_put (ci := 5) (v := s1) (ty := .boolean) (C := RX5) (T := TX5) (N := 6) hx hb ht inX5 tyX5 tyX5_ok nmX5 hown hSt hP hS ks0 (by decide) (mk5 ks0) rfl 5 (by decide) (ht _ wf_RX9_127) rfl rfl (by decide +kernel) c_2.narrow c_2.fits (Nat.le_of_ble_eq_true rfl) (by rw [mk5 ks0]; simp [mu]) dX9_change_139 (fun M_1 H locs eM_1 hP hS => ?_)
    have hw := hw M_1 eM_1
    refine lv_iload hx hb dX9_change_142 (lv_at hl 1 rfl) ?_
    exact W.iret hx hb hr (mw_end hP hSt hTb hS ⟨_, rfl, hw⟩) hS.2.2 dX9_change_144
  have J_125 : ∀ (v3 : Int32) (r4 : Nat) (s0 : Int32) (M : Mem) (H : Heap) (locs : List Loc) (ls : Array Slot), kdT r4 = 5 → b_X9_change_125 h Q v3 r4 s0 M → va_P G.2.1 clsA (wl G M) H → va_S (inW G) s.heap H locs → lv_has ls 6 [(0, .ref (G.1 + h)), (3, .int v3), (4, .ref (G.1 + r4))] → W p l e ({ frames := 3, cells := 0, slots := 0, locals := 64 } : Room) s m ([.ref (G.1 + h), .int a1, .int a2, .int a3] : List Value).toArray below meth c H locs 0 0 (MQ below (Pq G (Qi Q)) ([.ref (G.1 + h), .int a1, .int a2, .int a3] : List Value).toArray s 0 0 (inW G)) (F0 m 125 ls [.int s0]) := by
    intro v3 r4 s0 M H locs ls kr4 hw hP hS hl
    unfold b_X9_change_125 at hw
    refine lv_istore (lv' := [(5, .int s0), (0, .ref (G.1 + h)), (3, .int v3), (4, .ref (G.1 + r4))]) hx hb dX9_change_125 hl (by decide) rfl (fun ls hl => ?_)
    refine lv_aload hx hb dX9_change_127 (lv_at hl 3 rfl) ?_
    refine lv_iload_n hx hb dX9_change_129 rfl (lv_at hl 2 rfl) ?_
    refine lv_iconst (v := 1) hx hb dX9_change_130 (by decide) ?_
    refine lv_icmp_ne (tgt := 138) hx hb dX9_change_131 (by decide) (fun c_3 => ?_) (fun c_3 => ?_)
    · have hw := hw.1 c_3
      refine lv_iconst (v := 0) hx hb dX9_change_138 (by decide) ?_
      exact J_139 s0 r4 0 M _ _ _ kr4 hw hP hS (lv_sub hl [1, 0] rfl)
    · have hw := hw.2 c_3
      refine lv_iconst (v := 1) hx hb dX9_change_134 (by decide) ?_
      refine lv_goto (tgt := 139) hx hb dX9_change_135 (by decide) ?_
      exact J_139 s0 r4 1 M _ _ _ kr4 hw hP hS (lv_sub hl [1, 0] rfl)
  have J_17 : ∀  (M : Mem) (H : Heap) (locs : List Loc) (ls : Array Slot), b_X9_change_17 h Q M → va_P G.2.1 clsA (wl G M) H → va_S (inW G) s.heap H locs → lv_has ls 6 [(0, .ref (G.1 + h))] → W p l e ({ frames := 3, cells := 0, slots := 0, locals := 64 } : Room) s m ([.ref (G.1 + h), .int a1, .int a2, .int a3] : List Value).toArray below meth c H locs 0 0 (MQ below (Pq G (Qi Q)) ([.ref (G.1 + h), .int a1, .int a2, .int a3] : List Value).toArray s 0 0 (inW G)) (F0 m 17 ls []) := by
    intro  M H locs ls  hw hP hS hl
    unfold b_X9_change_17 at hw
    refine lv_aload_n hx hb dX9_change_17 rfl (lv_at hl 0 rfl) ?_
    refine lv_iconst (v := 1) hx hb dX9_change_18 (by decide) ?_
    refine mw_V (As := [.int 1]) (rest := []) (T := TX9) (N := 8) (n := 1) ⟨hx, hb, hml, hown, hts⟩ (so_X9_refuse l G h 1 M _ hw) wm_RX9_59 wi_yX9_refuse wv_yX9_refuse wn_RX9 wc_yX9_refuse (by decide) ⟨Nat.le_of_ble_eq_true rfl, Nat.le_of_ble_eq_true rfl⟩ ⟨rfl, rfl⟩ kh (by decide) (mk9 kh) rfl hSt hTb hP hS rfl hl.1 rfl (Nat.le_of_ble_eq_true rfl) dX9_change_19 ⟨Nat.le_refl 0, Nat.le_refl 0⟩ (fun rr_ M_4 H locs hq hP hS => ?_)
    obtain ⟨r_5, rfl, hw⟩ := hq
    exact W.iret hx hb hr (mw_end hP hSt hTb hS ⟨_, rfl, hw⟩) hS.2.2 dX9_change_22
  refine lv_aload_n hx hb dX9_change_0 rfl (lv_at hl 0 rfl) ?_
  refine lv_iload_n hx hb dX9_change_1 rfl (lv_at hl 1 rfl) ?_
  refine mw_V (As := [.int a1]) (rest := []) (T := TX9) (N := 8) (n := 1) ⟨hx, hb, hml, hown, hts⟩ (so_X9_isSheep l G h a1 M _ hw) wm_RX9_131 wi_yX9_isSheep wv_yX9_isSheep wn_RX9 wc_yX9_isSheep (by decide) ⟨Nat.le_of_ble_eq_true rfl, Nat.le_of_ble_eq_true rfl⟩ ⟨rfl, rfl⟩ kh (by decide) (mk9 kh) rfl hSt hTb hP hS rfl hl.1 rfl (Nat.le_of_ble_eq_true rfl) dX9_change_2 ⟨Nat.le_refl 0, Nat.le_refl 0⟩ (fun rr_ M_6 H locs hq hP hS => ?_)
  obtain ⟨r_7, rfl, hw⟩ := hq
  refine lv_if_eq (tgt := 17) hx hb dX9_change_5 (by decide) (fun c_8 => ?_) (fun c_8 => ?_)
  · have hw := hw.1 c_8
    exact J_17 M_6 _ _ _ hw hP hS (lv_sub hl [0] rfl)
  · have hw := hw.2 c_8
    refine lv_aload_n hx hb dX9_change_8 rfl (lv_at hl 0 rfl) ?_
    refine lv_iload_n hx hb dX9_change_9 rfl (lv_at hl 2 rfl) ?_
    refine lv_iload_n hx hb dX9_change_10 rfl (lv_at hl 3 rfl) ?_
    refine mw_V (As := [.int a2, .int a3]) (rest := []) (T := TX9) (N := 8) (n := 2) ⟨hx, hb, hml, hown, hts⟩ (so_X9_isChange l G h a2 a3 M_6 _ hw) wm_RX9_143 wi_yX9_isChange wv_yX9_isChange wn_RX9 wc_yX9_isChange (by decide) ⟨Nat.le_of_ble_eq_true rfl, Nat.le_of_ble_eq_true rfl⟩ ⟨rfl, rfl⟩ kh (by decide) (mk9 kh) rfl hSt hTb hP hS rfl hl.1 rfl (Nat.le_of_ble_eq_true rfl) dX9_change_11 ⟨Nat.le_refl 0, Nat.le_refl 0⟩ (fun rr_ M_9 H locs hq hP hS => ?_)
    obtain ⟨r_10, rfl, hw⟩ := hq
    refine lv_if_ne (tgt := 23) hx hb dX9_change_14 (by decide) (fun c_11 => ?_) (fun c_11 => ?_)
    · have hw := hw.1 c_11
      refine lv_aload_n hx hb dX9_change_23 rfl (lv_at hl 0 rfl) ?_
      refine mw_get (ci := 9) (v := .ref (G.1 + (h + 1))) (C := RX9) (T := TX9) (N := 8) hx hb ht inX9 hown hSt hP kh (by decide) (mk9 kh) rfl 0 (by decide) (ht _ wf_RX9_10) rfl rfl dX9_change_24 ?_
      refine mw_get (ci := 8) (v := .ref (G.1 + (h + 1 + 1))) (C := RX8) (T := TX8) (N := 4) hx hb ht inX8 hown hSt hP (ks9_0 kh) (by decide) (mk8 (ks9_0 kh)) rfl 0 (by decide) (ht _ wf_RX9_63) rfl rfl dX9_change_27 ?_
      refine mw_get (ci := 1) (v := .ref (G.1 + (h + 1 + 1 + 13))) (C := RX1) (T := TX1) (N := 9) hx hb ht inX1 hown hSt hP (ks8_0 (ks9_0 kh)) (by decide) (mk1 (ks8_0 (ks9_0 kh))) rfl 4 (by decide) (ht _ wf_RX9_106) rfl rfl dX9_change_30 ?_
      refine lv_iload_n hx hb dX9_change_33 rfl (lv_at hl 1 rfl) ?_
      obtain ⟨c_12, hw⟩ := hw
      refine mw_aald13 hx hb hSt hP (ks1_4 (ks8_0 (ks9_0 kh))) (by rw [(ln1_4 (ks8_0 (ks9_0 kh)))]; exact c_12) dX9_change_34 ?_
      obtain ⟨q_13, eq_13⟩ : ∃ z, z = h + 1 + 1 + 13 + 9 + a1.toNatClampNeg := ⟨_, rfl⟩
      have hw := hw q_13 eq_13
      have kq_13 : kdT q_13 = 5 := by rw [eq_13]; exact (ke13 (ks1_4 (ks8_0 (ks9_0 kh))) (vp_lt (by rw [(ln1_4 (ks8_0 (ks9_0 kh)))]; exact c_12)))
      rw [← eq_13]
      refine lv_astore (lv' := [(4, .ref (G.1 + q_13)), (0, .ref (G.1 + h)), (1, .int a1), (2, .int a2), (3, .int a3)]) hx hb dX9_change_35 hl (by decide) rfl (fun ls hl => ?_)
      refine lv_iload_n hx hb dX9_change_37 rfl (lv_at hl 3 rfl) ?_
      by_cases c_14 : a2 = 0
      · have hw := hw.1 c_14
        refine mw_tcase (tgt := 64) (off := 26) hx hb dX9_change_38 c_14 (by decide) ?_
        refine lv_aload hx hb dX9_change_64 (lv_at hl 0 rfl) ?_
        refine mw_get (ci := 5) (v := .int (M_9 q_13 2)) (C := RX5) (T := TX5) (N := 6) hx hb ht inX5 hown hSt hP kq_13 (by decide) (mk5 kq_13) rfl 2 (by decide) (ht _ wf_RX9_118) rfl rfl dX9_change_66 ?_
        refine lv_topi (fun x_15 ex_15 => ?_)
        have hw := hw x_15 ex_15
        refine lv_istore (lv' := [(5, .int x_15), (4, .ref (G.1 + q_13)), (0, .ref (G.1 + h)), (1, .int a1), (2, .int a2), (3, .int a3)]) hx hb dX9_change_69 hl (by decide) rfl (fun ls hl => ?_)
        refine lv_aload hx hb dX9_change_71 (lv_at hl 1 rfl) ?_
        refine lv_iload_n hx hb dX9_change_73 rfl (lv_at hl 5 rfl) ?_
        refine mw_put (ci := 5) (v := a3) (ty := .int) (C := RX5) (T := TX5) (N := 6) hx hb ht inX5 tyX5 tyX5_ok nmX5 hown hSt hP hS kq_13 (by decide) (mk5 kq_13) rfl 2 (by decide) (ht _ wf_RX9_118) rfl rfl (by decide +kernel) (vp_nar_int _) rfl (Nat.le_of_ble_eq_true rfl) (by rw [mk5 kq_13]; simp [mu]) dX9_change_74 (fun M_16 H locs eM_16 hP hS => ?_)
        have hw := hw M_16 eM_16
        refine lv_iload hx hb dX9_change_77 (lv_at hl 0 rfl) ?_
        exact W.iret hx hb hr (mw_end hP hSt hTb hS ⟨_, rfl, hw⟩) hS.2.2 dX9_change_79
      by_cases c_17 : a2 = 1
      · have hw := hw.2.1 c_17
        refine mw_tcase (tgt := 80) (off := 42) hx hb dX9_change_38 c_17 (by decide) ?_
        refine lv_aload hx hb dX9_change_80 (lv_at hl 0 rfl) ?_
        refine mw_get (ci := 5) (v := .int (M_9 q_13 3)) (C := RX5) (T := TX5) (N := 6) hx hb ht inX5 hown hSt hP kq_13 (by decide) (mk5 kq_13) rfl 3 (by decide) (ht _ wf_RX9_121) rfl rfl dX9_change_82 ?_
        refine lv_topi (fun x_18 ex_18 => ?_)
        have hw := hw x_18 ex_18
        refine lv_istore (lv' := [(5, .int x_18), (4, .ref (G.1 + q_13)), (0, .ref (G.1 + h)), (1, .int a1), (2, .int a2), (3, .int a3)]) hx hb dX9_change_85 hl (by decide) rfl (fun ls hl => ?_)
        refine lv_aload hx hb dX9_change_87 (lv_at hl 1 rfl) ?_
        refine lv_iload_n hx hb dX9_change_89 rfl (lv_at hl 5 rfl) ?_
        refine mw_put (ci := 5) (v := a3) (ty := .int) (C := RX5) (T := TX5) (N := 6) hx hb ht inX5 tyX5 tyX5_ok nmX5 hown hSt hP hS kq_13 (by decide) (mk5 kq_13) rfl 3 (by decide) (ht _ wf_RX9_121) rfl rfl (by decide +kernel) (vp_nar_int _) rfl (Nat.le_of_ble_eq_true rfl) (by rw [mk5 kq_13]; simp [mu]) dX9_change_90 (fun M_19 H locs eM_19 hP hS => ?_)
        have hw := hw M_19 eM_19
        refine lv_iload hx hb dX9_change_93 (lv_at hl 0 rfl) ?_
        exact W.iret hx hb hr (mw_end hP hSt hTb hS ⟨_, rfl, hw⟩) hS.2.2 dX9_change_95
      by_cases c_20 : a2 = 2
      · have hw := hw.2.2.1 c_20
        refine mw_tcase (tgt := 96) (off := 58) hx hb dX9_change_38 c_20 (by decide) ?_
        refine lv_aload hx hb dX9_change_96 (lv_at hl 0 rfl) ?_
        refine mw_get (ci := 5) (v := .int (M_9 q_13 4)) (C := RX5) (T := TX5) (N := 6) hx hb ht inX5 hown hSt hP kq_13 (by decide) (mk5 kq_13) rfl 4 (by decide) (ht _ wf_RX9_124) rfl rfl dX9_change_98 ?_
        refine lv_topi (fun x_21 ex_21 => ?_)
        have hw := hw x_21 ex_21
        refine lv_istore (lv' := [(5, .int x_21), (4, .ref (G.1 + q_13)), (0, .ref (G.1 + h)), (1, .int a1), (2, .int a2), (3, .int a3)]) hx hb dX9_change_101 hl (by decide) rfl (fun ls hl => ?_)
        refine lv_aload hx hb dX9_change_103 (lv_at hl 1 rfl) ?_
        refine lv_iload_n hx hb dX9_change_105 rfl (lv_at hl 5 rfl) ?_
        refine mw_put (ci := 5) (v := a3) (ty := .int) (C := RX5) (T := TX5) (N := 6) hx hb ht inX5 tyX5 tyX5_ok nmX5 hown hSt hP hS kq_13 (by decide) (mk5 kq_13) rfl 4 (by decide) (ht _ wf_RX9_124) rfl rfl (by decide +kernel) (vp_nar_int _) rfl (Nat.le_of_ble_eq_true rfl) (by rw [mk5 kq_13]; simp [mu]) dX9_change_106 (fun M_22 H locs eM_22 hP hS => ?_)
        have hw := hw M_22 eM_22
        refine lv_iload hx hb dX9_change_109 (lv_at hl 0 rfl) ?_
        exact W.iret hx hb hr (mw_end hP hSt hTb hS ⟨_, rfl, hw⟩) hS.2.2 dX9_change_111
      have hw := hw.2.2.2 c_14 c_17 c_20
      refine mw_tdef (keys := [0, 1, 2]) (tgt := 112) hx hb dX9_change_38 (List.forall_mem_cons.mpr ⟨c_14, (List.forall_mem_cons.mpr ⟨c_17, (List.forall_mem_cons.mpr ⟨c_20, (fun _ h_ => absurd h_ List.not_mem_nil)⟩)⟩)⟩) (by decide) (by decide) ?_
      refine lv_aload hx hb dX9_change_112 (lv_at hl 0 rfl) ?_
      refine mw_get (ci := 5) (v := .int (M_9 q_13 5)) (C := RX5) (T := TX5) (N := 6) hx hb ht inX5 hown hSt hP kq_13 (by decide) (mk5 kq_13) rfl 5 (by decide) (ht _ wf_RX9_127) rfl rfl dX9_change_114 ?_
      refine lv_if_eq (tgt := 124) hx hb dX9_change_117 (by decide) (fun c_23 => ?_) (fun c_23 => ?_)
      · have hw := hw.1 c_23
        refine lv_iconst (v := 0) hx hb dX9_change_124 (by decide) ?_
        exact J_125 a3 q_13 0 M_9 _ _ _ kq_13 hw hP hS (lv_sub hl [1, 4, 0] rfl)
      · have hw := hw.2 c_23
        refine lv_iconst (v := 1) hx hb dX9_change_120 (by decide) ?_
        refine lv_goto (tgt := 125) hx hb dX9_change_121 (by decide) ?_
        exact J_125 a3 q_13 1 M_9 _ _ _ kq_13 hw hP hS (lv_sub hl [1, 4, 0] rfl)
    · have hw := hw.2 c_11
      exact J_17 M_9 _ _ _ hw hP hS (lv_sub hl [0] rfl)
def b_X9_become_15 (h : Nat) (Q : Int32 → Mem → Prop) (M : Mem) : Prop :=
  wp_X9_refuse h 1 M (fun r_2 M_1 => Q r_2 M_1)
def wp_X9_become (h : Nat) (a1 : Int32) (a2 : Int32) (M : Mem) (Q : Int32 → Mem → Prop) : Prop :=
  kdT h = 9 ∧ (wp_X9_isSheep h a1 M (fun r_4 M_3 => (r_4 = 0 → b_X9_become_15 h Q M_3) ∧ (¬ r_4 = 0 → wp_X9_isKindWithM a2 M_3 (fun r_7 M_6 => (¬ r_7 = 0 → vp_in a1 7 ∧ (∀ q_10, q_10 = h + 1 + 1 + 13 + 9 + a1.toNatClampNeg → ∀ x_11, x_11 = M_6 q_10 0 → ∀ M_12, M_12 = mu M_6 q_10 0 (a2 / 10) → ∀ M_13, M_13 = mu M_12 q_10 1 (irm a2 10) → Q x_11 M_13)) ∧ (r_7 = 0 → b_X9_become_15 h Q M_6)))))
set_option maxHeartbeats 4000000 in
set_option maxRecDepth 100000 in
theorem so_X9_become (l : Launch) (G : Gm) (h : Nat) (a1 : Int32) (a2 : Int32) (M : Mem) (Q : Int32 → Mem → Prop) (hw : wp_X9_become h a1 a2 M Q) : Ct l G yX9_become cX9_become 5 (some .int) ({ frames := 2, cells := 0, slots := 0, locals := 42 } : Room) [.ref (G.1 + h), .int a1, .int a2] M (Qi Q) := by
  unfold wp_X9_become at hw
  obtain ⟨kh, hw⟩ := hw
  refine ct_of (by decide) (Nat.le_of_ble_eq_true rfl) ?_
  intro p e s m below meth c E_ ls H hl hP hS
  obtain ⟨hx, hb, hml, hown, hts, ht, hr, hlocks, hSt, hTb⟩ := E_
  have hl : lv_has ls 5 [(0, .ref (G.1 + h)), (1, .int a1), (2, .int a2)] := hl
  have J_15 : ∀  (M : Mem) (H : Heap) (locs : List Loc) (ls : Array Slot), b_X9_become_15 h Q M → va_P G.2.1 clsA (wl G M) H → va_S (inW G) s.heap H locs → lv_has ls 5 [(0, .ref (G.1 + h))] → W p l e ({ frames := 2, cells := 0, slots := 0, locals := 42 } : Room) s m ([.ref (G.1 + h), .int a1, .int a2] : List Value).toArray below meth c H locs 0 0 (MQ below (Pq G (Qi Q)) ([.ref (G.1 + h), .int a1, .int a2] : List Value).toArray s 0 0 (inW G)) (F0 m 15 ls []) := by
    intro  M H locs ls  hw hP hS hl
    unfold b_X9_become_15 at hw
    refine lv_aload_n hx hb dX9_become_15 rfl (lv_at hl 0 rfl) ?_
    refine lv_iconst (v := 1) hx hb dX9_become_16 (by decide) ?_
    refine mw_V (As := [.int 1]) (rest := []) (T := TX9) (N := 8) (n := 1) ⟨hx, hb, hml, hown, hts⟩ (so_X9_refuse l G h 1 M _ hw) wm_RX9_59 wi_yX9_refuse wv_yX9_refuse wn_RX9 wc_yX9_refuse (by decide) ⟨Nat.le_of_ble_eq_true rfl, Nat.le_of_ble_eq_true rfl⟩ ⟨rfl, rfl⟩ kh (by decide) (mk9 kh) rfl hSt hTb hP hS rfl hl.1 rfl (Nat.le_of_ble_eq_true rfl) dX9_become_17 ⟨Nat.le_refl 0, Nat.le_refl 0⟩ (fun rr_ M_1 H locs hq hP hS => ?_)
    obtain ⟨r_2, rfl, hw⟩ := hq
    exact W.iret hx hb hr (mw_end hP hSt hTb hS ⟨_, rfl, hw⟩) hS.2.2 dX9_become_20
  refine lv_aload_n hx hb dX9_become_0 rfl (lv_at hl 0 rfl) ?_
  refine lv_iload_n hx hb dX9_become_1 rfl (lv_at hl 1 rfl) ?_
  refine mw_V (As := [.int a1]) (rest := []) (T := TX9) (N := 8) (n := 1) ⟨hx, hb, hml, hown, hts⟩ (so_X9_isSheep l G h a1 M _ hw) wm_RX9_131 wi_yX9_isSheep wv_yX9_isSheep wn_RX9 wc_yX9_isSheep (by decide) ⟨Nat.le_of_ble_eq_true rfl, Nat.le_of_ble_eq_true rfl⟩ ⟨rfl, rfl⟩ kh (by decide) (mk9 kh) rfl hSt hTb hP hS rfl hl.1 rfl (Nat.le_of_ble_eq_true rfl) dX9_become_2 ⟨Nat.le_refl 0, Nat.le_refl 0⟩ (fun rr_ M_3 H locs hq hP hS => ?_)
  obtain ⟨r_4, rfl, hw⟩ := hq
  refine lv_if_eq (tgt := 15) hx hb dX9_become_5 (by decide) (fun c_5 => ?_) (fun c_5 => ?_)
  · have hw := hw.1 c_5
    exact J_15 M_3 _ _ _ hw hP hS (lv_sub hl [0] rfl)
  · have hw := hw.2 c_5
    refine lv_iload_n hx hb dX9_become_8 rfl (lv_at hl 2 rfl) ?_
    refine mw_Sx (As := [.int a2]) (rest := []) (n := 1) ⟨hx, hb, hml, hown, hts⟩ (so_X9_isKindWithM l G a2 M_3 _ hw) wm_RX9_97 wt_yX9_isKindWithM wn_RX9 wc_yX9_isKindWithM (by decide) ⟨Nat.le_of_ble_eq_true rfl, Nat.le_of_ble_eq_true rfl⟩ ⟨rfl, rfl⟩ hSt hTb hP hS rfl hl.1 rfl (Nat.le_of_ble_eq_true rfl) dX9_become_9 ⟨Nat.le_refl 0, Nat.le_refl 0⟩ (fun rr_ M_6 H locs hq hP hS => ?_)
    obtain ⟨r_7, rfl, hw⟩ := hq
    refine lv_if_ne (tgt := 21) hx hb dX9_become_12 (by decide) (fun c_8 => ?_) (fun c_8 => ?_)
    · have hw := hw.1 c_8
      refine lv_aload_n hx hb dX9_become_21 rfl (lv_at hl 0 rfl) ?_
      refine mw_get (ci := 9) (v := .ref (G.1 + (h + 1))) (C := RX9) (T := TX9) (N := 8) hx hb ht inX9 hown hSt hP kh (by decide) (mk9 kh) rfl 0 (by decide) (ht _ wf_RX9_10) rfl rfl dX9_become_22 ?_
      refine mw_get (ci := 8) (v := .ref (G.1 + (h + 1 + 1))) (C := RX8) (T := TX8) (N := 4) hx hb ht inX8 hown hSt hP (ks9_0 kh) (by decide) (mk8 (ks9_0 kh)) rfl 0 (by decide) (ht _ wf_RX9_63) rfl rfl dX9_become_25 ?_
      refine mw_get (ci := 1) (v := .ref (G.1 + (h + 1 + 1 + 13))) (C := RX1) (T := TX1) (N := 9) hx hb ht inX1 hown hSt hP (ks8_0 (ks9_0 kh)) (by decide) (mk1 (ks8_0 (ks9_0 kh))) rfl 4 (by decide) (ht _ wf_RX9_106) rfl rfl dX9_become_28 ?_
      refine lv_iload_n hx hb dX9_become_31 rfl (lv_at hl 1 rfl) ?_
      obtain ⟨c_9, hw⟩ := hw
      refine mw_aald13 hx hb hSt hP (ks1_4 (ks8_0 (ks9_0 kh))) (by rw [(ln1_4 (ks8_0 (ks9_0 kh)))]; exact c_9) dX9_become_32 ?_
      obtain ⟨q_10, eq_10⟩ : ∃ z, z = h + 1 + 1 + 13 + 9 + a1.toNatClampNeg := ⟨_, rfl⟩
      have hw := hw q_10 eq_10
      have kq_10 : kdT q_10 = 5 := by rw [eq_10]; exact (ke13 (ks1_4 (ks8_0 (ks9_0 kh))) (vp_lt (by rw [(ln1_4 (ks8_0 (ks9_0 kh)))]; exact c_9)))
      rw [← eq_10]
      refine lv_astore_n (lv' := [(3, .ref (G.1 + q_10)), (0, .ref (G.1 + h)), (1, .int a1), (2, .int a2)]) hx hb dX9_become_33 rfl hl (by decide) rfl (fun ls hl => ?_)
      refine lv_aload_n hx hb dX9_become_34 rfl (lv_at hl 0 rfl) ?_
      refine mw_get (ci := 5) (v := .int (M_6 q_10 0)) (C := RX5) (T := TX5) (N := 6) hx hb ht inX5 hown hSt hP kq_10 (by decide) (mk5 kq_10) rfl 0 (by decide) (ht _ wf_RX9_110) rfl rfl dX9_become_35 ?_
      refine lv_topi (fun x_11 ex_11 => ?_)
      have hw := hw x_11 ex_11
      refine lv_istore (lv' := [(4, .int x_11), (3, .ref (G.1 + q_10)), (0, .ref (G.1 + h)), (1, .int a1), (2, .int a2)]) hx hb dX9_become_38 hl (by decide) rfl (fun ls hl => ?_)
      refine lv_aload_n hx hb dX9_become_40 rfl (lv_at hl 1 rfl) ?_
      refine lv_iload_n hx hb dX9_become_41 rfl (lv_at hl 4 rfl) ?_
      refine lv_bipush (v := 10) hx hb dX9_become_42 (by decide) ?_
      refine lv_idiv hx hb dX9_become_44 (by decide) ?_
      refine mw_put (ci := 5) (v := a2 / 10) (ty := .int) (C := RX5) (T := TX5) (N := 6) hx hb ht inX5 tyX5 tyX5_ok nmX5 hown hSt hP hS kq_10 (by decide) (mk5 kq_10) rfl 0 (by decide) (ht _ wf_RX9_110) rfl rfl (by decide +kernel) (vp_nar_int _) rfl (Nat.le_of_ble_eq_true rfl) (by rw [mk5 kq_10]; simp [mu]) dX9_become_45 (fun M_12 H locs eM_12 hP hS => ?_)
      have hw := hw M_12 eM_12
      refine lv_aload_n hx hb dX9_become_48 rfl (lv_at hl 1 rfl) ?_
      refine lv_iload_n hx hb dX9_become_49 rfl (lv_at hl 4 rfl) ?_
      refine lv_bipush (v := 10) hx hb dX9_become_50 (by decide) ?_
      refine lv_irem hx hb dX9_become_52 (by decide) ?_
      refine mw_put (ci := 5) (v := irm a2 10) (ty := .int) (C := RX5) (T := TX5) (N := 6) hx hb ht inX5 tyX5 tyX5_ok nmX5 hown hSt hP hS kq_10 (by decide) (mk5 kq_10) rfl 1 (by decide) (ht _ wf_RX9_115) rfl rfl (by decide +kernel) (vp_nar_int _) rfl (Nat.le_of_ble_eq_true rfl) (by rw [mk5 kq_10]; simp [mu]) dX9_become_53 (fun M_13 H locs eM_13 hP hS => ?_)
      have hw := hw M_13 eM_13
      refine lv_iload hx hb dX9_become_56 (lv_at hl 0 rfl) ?_
      exact W.iret hx hb hr (mw_end hP hSt hTb hS ⟨_, rfl, hw⟩) hS.2.2 dX9_become_58
    · have hw := hw.2 c_8
      exact J_15 M_6 _ _ _ hw hP hS (lv_sub hl [0] rfl)
def B_X9_isOfKind_4 (Q : Int32 → Mem → Prop) (v1 : Int32) (K4 : Int32 → Int32 → Mem → Prop) (v2 : Int32) (v3 : Int32) (M : Mem) : Prop :=
  (7 ≤ v3 → Q 0 M) ∧ (¬ 7 ≤ v3 → wp_X9_isWithin v2 6 M (fun r_3 M_2 => (r_3 = 0 → Q 0 M_2) ∧ (¬ r_3 = 0 → (¬ v2 = v1 → vp_in v2 7 ∧ (∀ x_7, x_7 = KA v2.toNatClampNeg → ∀ x_8 : Int32, x_8 = v3 + 1 → K4 x_7 x_8 M_2)) ∧ (v2 = v1 → Q 1 M_2))))
def l_X9_isOfKind_4 (Q : Int32 → Mem → Prop) (v1 : Int32) : Nat → Int32 → Int32 → Mem → Prop
  | 0 => fun _ _ _ => False
  | n + 1 => B_X9_isOfKind_4 Q v1 (l_X9_isOfKind_4 Q v1 n)
def wp_X9_isOfKind (a0 : Int32) (a1 : Int32) (M : Mem) (Q : Int32 → Mem → Prop) : Prop :=
  ∃ n, l_X9_isOfKind_4 Q a1 n a0 0 M
set_option maxHeartbeats 4000000 in
set_option maxRecDepth 100000 in
theorem so_X9_isOfKind (l : Launch) (G : Gm) (a0 : Int32) (a1 : Int32) (M : Mem) (Q : Int32 → Mem → Prop) (hw : wp_X9_isOfKind a0 a1 M Q) : Ct l G yX9_isOfKind cX9_isOfKind 4 (some .boolean) ({ frames := 1, cells := 0, slots := 0, locals := 21 } : Room) [.int a0, .int a1] M (Qi Q) := by
  unfold wp_X9_isOfKind at hw
  refine ct_of (by decide) (Nat.le_of_ble_eq_true rfl) ?_
  intro p e s m below meth c E_ ls H hl hP hS
  obtain ⟨hx, hb, hml, hown, hts, ht, hr, hlocks, hSt, hTb⟩ := E_
  have hl : lv_has ls 4 [(0, .int a0), (1, .int a1)] := hl
  have L_4 : ∀ (v1 : Int32), ∀ (n4 : Nat) (v2 : Int32) (v3 : Int32) (M : Mem) (H : Heap) (locs : List Loc) (ls : Array Slot), l_X9_isOfKind_4 Q v1 n4 v2 v3 M → va_P G.2.1 clsA (wl G M) H → va_S (inW G) s.heap H locs → lv_has ls 4 [(1, .int v1), (2, .int v2), (3, .int v3)] → W p l e ({ frames := 1, cells := 0, slots := 0, locals := 21 } : Room) s m ([.int a0, .int a1] : List Value).toArray below meth c H locs 0 0 (MQ below (Pq G (Qi Q)) ([.int a0, .int a1] : List Value).toArray s 0 0 (inW G)) (F0 m 4 ls []) := by
    intro v1  n4
    induction n4 with
    | zero => intro v2 v3 M H locs ls  hw hP hS hl; exact False.elim hw
    | succ n4 ih4 =>
      intro v2 v3 M H locs ls  hw hP hS hl
      have hw : B_X9_isOfKind_4 Q v1 (l_X9_isOfKind_4 Q v1 n4) v2 v3 M := hw
      unfold B_X9_isOfKind_4 at hw
      refine lv_iload_n hx hb dX9_isOfKind_4 rfl (lv_at hl 2 rfl) ?_
      refine lv_bipush (v := 7) hx hb dX9_isOfKind_5 (by decide) ?_
      refine lv_icmp_ge (tgt := 38) hx hb dX9_isOfKind_7 (by decide) (fun c_1 => ?_) (fun c_1 => ?_)
      · have hw := hw.1 c_1
        refine lv_iconst (v := 0) hx hb dX9_isOfKind_38 (by decide) ?_
        exact W.zret (v := 0) hx hb hr (by decide) (mw_end hP hSt hTb hS ⟨_, rfl, hw⟩) hS.2.2 dX9_isOfKind_39
      · have hw := hw.2 c_1
        refine lv_iload_n hx hb dX9_isOfKind_10 rfl (lv_at hl 1 rfl) ?_
        refine lv_bipush (v := 6) hx hb dX9_isOfKind_11 (by decide) ?_
        refine mw_Sx (As := [.int v2, .int 6]) (rest := []) (n := 2) ⟨hx, hb, hml, hown, hts⟩ (so_X9_isWithin l G v2 6 M _ hw) wm_RX9_55 wt_yX9_isWithin wn_RX9 wc_yX9_isWithin (by decide) ⟨Nat.le_of_ble_eq_true rfl, Nat.le_of_ble_eq_true rfl⟩ ⟨rfl, rfl⟩ hSt hTb hP hS rfl hl.1 rfl (Nat.le_of_ble_eq_true rfl) dX9_isOfKind_13 ⟨Nat.le_refl 0, Nat.le_refl 0⟩ (fun rr_ M_2 H locs hq hP hS => ?_)
        obtain ⟨r_3, rfl, hw⟩ := hq
        refine lv_if_eq (tgt := 38) hx hb dX9_isOfKind_16 (by decide) (fun c_4 => ?_) (fun c_4 => ?_)
        · have hw := hw.1 c_4
          refine lv_iconst (v := 0) hx hb dX9_isOfKind_38 (by decide) ?_
          exact W.zret (v := 0) hx hb hr (by decide) (mw_end hP hSt hTb hS ⟨_, rfl, hw⟩) hS.2.2 dX9_isOfKind_39
        · have hw := hw.2 c_4
          refine lv_iload_n hx hb dX9_isOfKind_19 rfl (lv_at hl 1 rfl) ?_
          refine lv_iload_n hx hb dX9_isOfKind_20 rfl (lv_at hl 0 rfl) ?_
          refine lv_icmp_ne (tgt := 26) hx hb dX9_isOfKind_21 (by decide) (fun c_5 => ?_) (fun c_5 => ?_)
          · have hw := hw.1 c_5
            refine va_gets (v := .ref G.2.2.2.1) hx hb hTb.1.1 hS hown (ht _ wf_RX9_298) (fun _ h9 => h9) dX9_isOfKind_26 ?_
            refine lv_iload_n hx hb dX9_isOfKind_29 rfl (lv_at hl 1 rfl) ?_
            obtain ⟨c_6, hw⟩ := hw
            refine va_ti (v := .int (KA v2.toNatClampNeg)) hx hb hTb.1.2 hS c_6 rfl dX9_isOfKind_30 ?_
            refine lv_topi (fun x_7 ex_7 => ?_)
            have hw := hw x_7 ex_7
            refine lv_istore_n (lv' := [(2, .int x_7), (1, .int v1), (3, .int v3)]) hx hb dX9_isOfKind_31 rfl hl (by decide) rfl (fun ls hl => ?_)
            obtain ⟨x_8, ex_8⟩ : ∃ z : Int32, z = v3 + 1 := ⟨_, rfl⟩
            have hw := hw x_8 ex_8
            refine lv_iinc (v := x_8) (lv' := [(3, .int x_8), (2, .int x_7), (1, .int v1)]) hx hb dX9_isOfKind_32 hl (k := 2) rfl (by rw [ex_8]; rfl) (by decide) rfl (fun ls hl => ?_)
            refine lv_goto (tgt := 4) hx hb dX9_isOfKind_35 (by decide) ?_
            exact ih4 x_7 x_8 M_2 _ _ _ hw hP hS (lv_sub hl [2, 1, 0] rfl)
          · have hw := hw.2 c_5
            refine lv_iconst (v := 1) hx hb dX9_isOfKind_24 (by decide) ?_
            exact W.zret (v := 1) hx hb hr (by decide) (mw_end hP hSt hTb hS ⟨_, rfl, hw⟩) hS.2.2 dX9_isOfKind_25
  refine lv_iload_n hx hb dX9_isOfKind_0 rfl (lv_at hl 0 rfl) ?_
  refine lv_istore_n (lv' := [(2, .int a0), (0, .int a0), (1, .int a1)]) hx hb dX9_isOfKind_1 rfl hl (by decide) rfl (fun ls hl => ?_)
  refine lv_iconst (v := 0) hx hb dX9_isOfKind_2 (by decide) ?_
  refine lv_istore_n (lv' := [(3, .int 0), (2, .int a0), (0, .int a0), (1, .int a1)]) hx hb dX9_isOfKind_3 rfl hl (by decide) rfl (fun ls hl => ?_)
  obtain ⟨n_, hw⟩ := hw
  exact L_4 a1 n_ a0 0 M _ _ _ hw hP hS (lv_sub hl [3, 1, 0] rfl)
def b_X9_as_17 (h : Nat) (Q : Int32 → Mem → Prop) (M : Mem) : Prop :=
  wp_X9_refuse h 1 M (fun r_2 M_1 => Q r_2 M_1)
def wp_X9_as (h : Nat) (a1 : Int32) (a2 : Int32) (M : Mem) (Q : Int32 → Mem → Prop) : Prop :=
  kdT h = 9 ∧ (wp_X9_isSheep h a1 M (fun r_4 M_3 => (r_4 = 0 → b_X9_as_17 h Q M_3) ∧ (¬ r_4 = 0 → wp_X9_isWithin a2 6 M_3 (fun r_7 M_6 => (¬ r_7 = 0 → vp_in a1 7 ∧ (∀ q_10, q_10 = h + 1 + 1 + 13 + 9 + a1.toNatClampNeg → wp_X9_isOfKind (M_6 q_10 0) a2 M_6 (fun r_12 M_11 => (r_12 = 0 → wp_X9_refuse h 5 M_11 (fun r_15 M_14 => Q r_15 M_14)) ∧ (¬ r_12 = 0 → Q (M_11 q_10 1) M_11)))) ∧ (r_7 = 0 → b_X9_as_17 h Q M_6)))))
set_option maxHeartbeats 4000000 in
set_option maxRecDepth 100000 in
theorem so_X9_as (l : Launch) (G : Gm) (h : Nat) (a1 : Int32) (a2 : Int32) (M : Mem) (Q : Int32 → Mem → Prop) (hw : wp_X9_as h a1 a2 M Q) : Ct l G yX9_as cX9_as 4 (some .int) ({ frames := 2, cells := 0, slots := 0, locals := 44 } : Room) [.ref (G.1 + h), .int a1, .int a2] M (Qi Q) := by
  unfold wp_X9_as at hw
  obtain ⟨kh, hw⟩ := hw
  refine ct_of (by decide) (Nat.le_of_ble_eq_true rfl) ?_
  intro p e s m below meth c E_ ls H hl hP hS
  obtain ⟨hx, hb, hml, hown, hts, ht, hr, hlocks, hSt, hTb⟩ := E_
  have hl : lv_has ls 4 [(0, .ref (G.1 + h)), (1, .int a1), (2, .int a2)] := hl
  have J_17 : ∀  (M : Mem) (H : Heap) (locs : List Loc) (ls : Array Slot), b_X9_as_17 h Q M → va_P G.2.1 clsA (wl G M) H → va_S (inW G) s.heap H locs → lv_has ls 4 [(0, .ref (G.1 + h))] → W p l e ({ frames := 2, cells := 0, slots := 0, locals := 44 } : Room) s m ([.ref (G.1 + h), .int a1, .int a2] : List Value).toArray below meth c H locs 0 0 (MQ below (Pq G (Qi Q)) ([.ref (G.1 + h), .int a1, .int a2] : List Value).toArray s 0 0 (inW G)) (F0 m 17 ls []) := by
    intro  M H locs ls  hw hP hS hl
    unfold b_X9_as_17 at hw
    refine lv_aload_n hx hb dX9_as_17 rfl (lv_at hl 0 rfl) ?_
    refine lv_iconst (v := 1) hx hb dX9_as_18 (by decide) ?_
    refine mw_V (As := [.int 1]) (rest := []) (T := TX9) (N := 8) (n := 1) ⟨hx, hb, hml, hown, hts⟩ (so_X9_refuse l G h 1 M _ hw) wm_RX9_59 wi_yX9_refuse wv_yX9_refuse wn_RX9 wc_yX9_refuse (by decide) ⟨Nat.le_of_ble_eq_true rfl, Nat.le_of_ble_eq_true rfl⟩ ⟨rfl, rfl⟩ kh (by decide) (mk9 kh) rfl hSt hTb hP hS rfl hl.1 rfl (Nat.le_of_ble_eq_true rfl) dX9_as_19 ⟨Nat.le_refl 0, Nat.le_refl 0⟩ (fun rr_ M_1 H locs hq hP hS => ?_)
    obtain ⟨r_2, rfl, hw⟩ := hq
    exact W.iret hx hb hr (mw_end hP hSt hTb hS ⟨_, rfl, hw⟩) hS.2.2 dX9_as_22
  refine lv_aload_n hx hb dX9_as_0 rfl (lv_at hl 0 rfl) ?_
  refine lv_iload_n hx hb dX9_as_1 rfl (lv_at hl 1 rfl) ?_
  refine mw_V (As := [.int a1]) (rest := []) (T := TX9) (N := 8) (n := 1) ⟨hx, hb, hml, hown, hts⟩ (so_X9_isSheep l G h a1 M _ hw) wm_RX9_131 wi_yX9_isSheep wv_yX9_isSheep wn_RX9 wc_yX9_isSheep (by decide) ⟨Nat.le_of_ble_eq_true rfl, Nat.le_of_ble_eq_true rfl⟩ ⟨rfl, rfl⟩ kh (by decide) (mk9 kh) rfl hSt hTb hP hS rfl hl.1 rfl (Nat.le_of_ble_eq_true rfl) dX9_as_2 ⟨Nat.le_refl 0, Nat.le_refl 0⟩ (fun rr_ M_3 H locs hq hP hS => ?_)
  obtain ⟨r_4, rfl, hw⟩ := hq
  refine lv_if_eq (tgt := 17) hx hb dX9_as_5 (by decide) (fun c_5 => ?_) (fun c_5 => ?_)
  · have hw := hw.1 c_5
    exact J_17 M_3 _ _ _ hw hP hS (lv_sub hl [0] rfl)
  · have hw := hw.2 c_5
    refine lv_iload_n hx hb dX9_as_8 rfl (lv_at hl 2 rfl) ?_
    refine lv_bipush (v := 6) hx hb dX9_as_9 (by decide) ?_
    refine mw_Sx (As := [.int a2, .int 6]) (rest := []) (n := 2) ⟨hx, hb, hml, hown, hts⟩ (so_X9_isWithin l G a2 6 M_3 _ hw) wm_RX9_55 wt_yX9_isWithin wn_RX9 wc_yX9_isWithin (by decide) ⟨Nat.le_of_ble_eq_true rfl, Nat.le_of_ble_eq_true rfl⟩ ⟨rfl, rfl⟩ hSt hTb hP hS rfl hl.1 rfl (Nat.le_of_ble_eq_true rfl) dX9_as_11 ⟨Nat.le_refl 0, Nat.le_refl 0⟩ (fun rr_ M_6 H locs hq hP hS => ?_)
    obtain ⟨r_7, rfl, hw⟩ := hq
    refine lv_if_ne (tgt := 23) hx hb dX9_as_14 (by decide) (fun c_8 => ?_) (fun c_8 => ?_)
    · have hw := hw.1 c_8
      refine lv_aload_n hx hb dX9_as_23 rfl (lv_at hl 0 rfl) ?_
      refine mw_get (ci := 9) (v := .ref (G.1 + (h + 1))) (C := RX9) (T := TX9) (N := 8) hx hb ht inX9 hown hSt hP kh (by decide) (mk9 kh) rfl 0 (by decide) (ht _ wf_RX9_10) rfl rfl dX9_as_24 ?_
      refine mw_get (ci := 8) (v := .ref (G.1 + (h + 1 + 1))) (C := RX8) (T := TX8) (N := 4) hx hb ht inX8 hown hSt hP (ks9_0 kh) (by decide) (mk8 (ks9_0 kh)) rfl 0 (by decide) (ht _ wf_RX9_63) rfl rfl dX9_as_27 ?_
      refine mw_get (ci := 1) (v := .ref (G.1 + (h + 1 + 1 + 13))) (C := RX1) (T := TX1) (N := 9) hx hb ht inX1 hown hSt hP (ks8_0 (ks9_0 kh)) (by decide) (mk1 (ks8_0 (ks9_0 kh))) rfl 4 (by decide) (ht _ wf_RX9_106) rfl rfl dX9_as_30 ?_
      refine lv_iload_n hx hb dX9_as_33 rfl (lv_at hl 1 rfl) ?_
      obtain ⟨c_9, hw⟩ := hw
      refine mw_aald13 hx hb hSt hP (ks1_4 (ks8_0 (ks9_0 kh))) (by rw [(ln1_4 (ks8_0 (ks9_0 kh)))]; exact c_9) dX9_as_34 ?_
      obtain ⟨q_10, eq_10⟩ : ∃ z, z = h + 1 + 1 + 13 + 9 + a1.toNatClampNeg := ⟨_, rfl⟩
      have hw := hw q_10 eq_10
      have kq_10 : kdT q_10 = 5 := by rw [eq_10]; exact (ke13 (ks1_4 (ks8_0 (ks9_0 kh))) (vp_lt (by rw [(ln1_4 (ks8_0 (ks9_0 kh)))]; exact c_9)))
      rw [← eq_10]
      refine lv_astore_n (lv' := [(3, .ref (G.1 + q_10)), (0, .ref (G.1 + h)), (1, .int a1), (2, .int a2)]) hx hb dX9_as_35 rfl hl (by decide) rfl (fun ls hl => ?_)
      refine lv_aload_n hx hb dX9_as_36 rfl (lv_at hl 0 rfl) ?_
      refine mw_get (ci := 5) (v := .int (M_6 q_10 0)) (C := RX5) (T := TX5) (N := 6) hx hb ht inX5 hown hSt hP kq_10 (by decide) (mk5 kq_10) rfl 0 (by decide) (ht _ wf_RX9_110) rfl rfl dX9_as_37 ?_
      refine lv_iload_n hx hb dX9_as_40 rfl (lv_at hl 3 rfl) ?_
      refine mw_Sx (As := [.int (M_6 q_10 0), .int a2]) (rest := []) (n := 2) ⟨hx, hb, hml, hown, hts⟩ (so_X9_isOfKind l G (M_6 q_10 0) a2 M_6 _ hw) wm_RX9_146 wt_yX9_isOfKind wn_RX9 wc_yX9_isOfKind (by decide) ⟨Nat.le_of_ble_eq_true rfl, Nat.le_of_ble_eq_true rfl⟩ ⟨rfl, rfl⟩ hSt hTb hP hS rfl hl.1 rfl (Nat.le_of_ble_eq_true rfl) dX9_as_41 ⟨Nat.le_refl 0, Nat.le_refl 0⟩ (fun rr_ M_11 H locs hq hP hS => ?_)
      obtain ⟨r_12, rfl, hw⟩ := hq
      refine lv_if_eq (tgt := 54) hx hb dX9_as_44 (by decide) (fun c_13 => ?_) (fun c_13 => ?_)
      · have hw := hw.1 c_13
        refine lv_aload_n hx hb dX9_as_54 rfl (lv_at hl 1 rfl) ?_
        refine lv_iconst (v := 5) hx hb dX9_as_55 (by decide) ?_
        refine mw_V (As := [.int 5]) (rest := []) (T := TX9) (N := 8) (n := 1) ⟨hx, hb, hml, hown, hts⟩ (so_X9_refuse l G h 5 M_11 _ hw) wm_RX9_59 wi_yX9_refuse wv_yX9_refuse wn_RX9 wc_yX9_refuse (by decide) ⟨Nat.le_of_ble_eq_true rfl, Nat.le_of_ble_eq_true rfl⟩ ⟨rfl, rfl⟩ kh (by decide) (mk9 kh) rfl hSt hTb hP hS rfl hl.1 rfl (Nat.le_of_ble_eq_true rfl) dX9_as_56 ⟨Nat.le_refl 0, Nat.le_refl 0⟩ (fun rr_ M_14 H locs hq hP hS => ?_)
        obtain ⟨r_15, rfl, hw⟩ := hq
        exact W.iret hx hb hr (mw_end hP hSt hTb hS ⟨_, rfl, hw⟩) hS.2.2 dX9_as_59
      · have hw := hw.2 c_13
        refine lv_aload_n hx hb dX9_as_47 rfl (lv_at hl 0 rfl) ?_
        refine mw_get (ci := 5) (v := .int (M_11 q_10 1)) (C := RX5) (T := TX5) (N := 6) hx hb ht inX5 hown hSt hP kq_10 (by decide) (mk5 kq_10) rfl 1 (by decide) (ht _ wf_RX9_115) rfl rfl dX9_as_48 ?_
        refine lv_goto (tgt := 59) hx hb dX9_as_51 (by decide) ?_
        exact W.iret hx hb hr (mw_end hP hSt hTb hS ⟨_, rfl, hw⟩) hS.2.2 dX9_as_59
    · have hw := hw.2 c_8
      exact J_17 M_6 _ _ _ hw hP hS (lv_sub hl [0] rfl)
def B_X9_feed_43 (h : Nat) (Q : Int32 → Mem → Prop) (w1 : Int64) (v3 : Int32) (K43 : Int32 → Mem → Prop) (v4 : Int32) (M : Mem) : Prop :=
  (v3 ≤ v4 → Q (M (h + 1 + 30) 1) M) ∧ (¬ v3 ≤ v4 → wp_X3_append (h + 1 + 30) (((lus w1 (8 * v4)).toInt32) &&& 255) M (fun r_3 M_2 => ∀ x_4 : Int32, x_4 = v4 + 1 → K43 x_4 M_2))
def l_X9_feed_43 (h : Nat) (Q : Int32 → Mem → Prop) (w1 : Int64) (v3 : Int32) : Nat → Int32 → Mem → Prop
  | 0 => fun _ _ => False
  | n + 1 => B_X9_feed_43 h Q w1 v3 (l_X9_feed_43 h Q w1 v3 n)
def b_X9_feed_11 (h : Nat) (Q : Int32 → Mem → Prop) (M : Mem) : Prop :=
  wp_X9_refuse h 1 M (fun r_6 M_5 => Q r_6 M_5)
def wp_X9_feed (h : Nat) (a1 : Int64) (a3 : Int32) (M : Mem) (Q : Int32 → Mem → Prop) : Prop :=
  kdT h = 9 ∧ ((a3 < 1 → b_X9_feed_11 h Q M) ∧ (¬ a3 < 1 → (a3 ≤ 8 → (((M (h + 1 + 30) 1) + a3) ≤ 50 → ∃ n, l_X9_feed_43 h Q a1 a3 n 0 M) ∧ (¬ ((M (h + 1 + 30) 1) + a3) ≤ 50 → wp_X9_refuse h 4 M (fun r_11 M_10 => Q r_11 M_10))) ∧ (¬ a3 ≤ 8 → b_X9_feed_11 h Q M)))
set_option maxHeartbeats 4000000 in
set_option maxRecDepth 100000 in
theorem so_X9_feed (l : Launch) (G : Gm) (h : Nat) (a1 : Int64) (a3 : Int32) (M : Mem) (Q : Int32 → Mem → Prop) (hw : wp_X9_feed h a1 a3 M Q) : Ct l G yX9_feed cX9_feed 5 (some .int) ({ frames := 1, cells := 0, slots := 0, locals := 21 } : Room) [.ref (G.1 + h), .long a1, .int a3] M (Qi Q) := by
  unfold wp_X9_feed at hw
  obtain ⟨kh, hw⟩ := hw
  refine ct_of (by decide) (Nat.le_of_ble_eq_true rfl) ?_
  intro p e s m below meth c E_ ls H hl hP hS
  obtain ⟨hx, hb, hml, hown, hts, ht, hr, hlocks, hSt, hTb⟩ := E_
  have hl : lv_has ls 5 [(0, .ref (G.1 + h)), (1, .long a1), (3, .int a3)] := hl
  have L_43 : ∀ (w1 : Int64) (v3 : Int32), ∀ (n43 : Nat) (v4 : Int32) (M : Mem) (H : Heap) (locs : List Loc) (ls : Array Slot), l_X9_feed_43 h Q w1 v3 n43 v4 M → va_P G.2.1 clsA (wl G M) H → va_S (inW G) s.heap H locs → lv_has ls 5 [(0, .ref (G.1 + h)), (1, .long w1), (3, .int v3), (4, .int v4)] → W p l e ({ frames := 1, cells := 0, slots := 0, locals := 21 } : Room) s m ([.ref (G.1 + h), .long a1, .int a3] : List Value).toArray below meth c H locs 0 0 (MQ below (Pq G (Qi Q)) ([.ref (G.1 + h), .long a1, .int a3] : List Value).toArray s 0 0 (inW G)) (F0 m 43 ls []) := by
    intro w1 v3  n43
    induction n43 with
    | zero => intro v4 M H locs ls  hw hP hS hl; exact False.elim hw
    | succ n43 ih43 =>
      intro v4 M H locs ls  hw hP hS hl
      have hw : B_X9_feed_43 h Q w1 v3 (l_X9_feed_43 h Q w1 v3 n43) v4 M := hw
      unfold B_X9_feed_43 at hw
      refine lv_iload hx hb dX9_feed_43 (lv_at hl 3 rfl) ?_
      refine lv_iload_n hx hb dX9_feed_45 rfl (lv_at hl 2 rfl) ?_
      refine lv_icmp_ge (tgt := 78) hx hb dX9_feed_46 (by decide) (fun c_1 => ?_) (fun c_1 => ?_)
      · have hw := hw.1 c_1
        refine lv_aload_n hx hb dX9_feed_78 rfl (lv_at hl 0 rfl) ?_
        refine mw_get (ci := 9) (v := .ref (G.1 + (h + 1))) (C := RX9) (T := TX9) (N := 8) hx hb ht inX9 hown hSt hP kh (by decide) (mk9 kh) rfl 0 (by decide) (ht _ wf_RX9_10) rfl rfl dX9_feed_79 ?_
        refine mw_get (ci := 8) (v := .ref (G.1 + (h + 1 + 30))) (C := RX8) (T := TX8) (N := 4) hx hb ht inX8 hown hSt hP (ks9_0 kh) (by decide) (mk8 (ks9_0 kh)) rfl 1 (by decide) (ht _ wf_RX9_149) rfl rfl dX9_feed_82 ?_
        refine mw_get (ci := 3) (v := .int (M (h + 1 + 30) 1)) (C := RX3) (T := TX3) (N := 2) hx hb ht inX3 hown hSt hP (ks8_1 (ks9_0 kh)) (by decide) (mk3 (ks8_1 (ks9_0 kh))) rfl 1 (by decide) (ht _ wf_RX9_153) rfl rfl dX9_feed_85 ?_
        exact W.iret hx hb hr (mw_end hP hSt hTb hS ⟨_, rfl, hw⟩) hS.2.2 dX9_feed_88
      · have hw := hw.2 c_1
        refine lv_aload_n hx hb dX9_feed_49 rfl (lv_at hl 0 rfl) ?_
        refine mw_get (ci := 9) (v := .ref (G.1 + (h + 1))) (C := RX9) (T := TX9) (N := 8) hx hb ht inX9 hown hSt hP kh (by decide) (mk9 kh) rfl 0 (by decide) (ht _ wf_RX9_10) rfl rfl dX9_feed_50 ?_
        refine mw_get (ci := 8) (v := .ref (G.1 + (h + 1 + 30))) (C := RX8) (T := TX8) (N := 4) hx hb ht inX8 hown hSt hP (ks9_0 kh) (by decide) (mk8 (ks9_0 kh)) rfl 1 (by decide) (ht _ wf_RX9_149) rfl rfl dX9_feed_53 ?_
        refine lv_lload_n hx hb dX9_feed_56 rfl (lv_at hl 1 rfl) ?_
        refine lv_bipush (v := 8) hx hb dX9_feed_57 (by decide) ?_
        refine lv_iload hx hb dX9_feed_59 (lv_at hl 3 rfl) ?_
        refine lv_imul hx hb dX9_feed_61 ?_
        refine lv_lushr (v := lus w1 (8 * v4)) hx hb dX9_feed_62 rfl ?_
        refine lv_l2i (v := (lus w1 (8 * v4)).toInt32) hx hb dX9_feed_63 rfl ?_
        refine lv_sipush (v := 255) hx hb dX9_feed_64 (by decide) ?_
        refine lv_iand hx hb dX9_feed_67 ?_
        refine mw_V (As := [.int (((lus w1 (8 * v4)).toInt32) &&& 255)]) (rest := []) (T := TX3) (N := 2) (n := 1) ⟨hx, hb, hml, hown, hts⟩ (so_X3_append l G (h + 1 + 30) (((lus w1 (8 * v4)).toInt32) &&& 255) M _ hw) wm_RX9_158 wi_yX3_append wv_yX3_append wn_RX3 wc_yX3_append (by decide) ⟨Nat.le_of_ble_eq_true rfl, Nat.le_of_ble_eq_true rfl⟩ ⟨rfl, rfl⟩ (ks8_1 (ks9_0 kh)) (by decide) (mk3 (ks8_1 (ks9_0 kh))) rfl hSt hTb hP hS rfl hl.1 rfl (Nat.le_of_ble_eq_true rfl) dX9_feed_68 ⟨Nat.le_refl 0, Nat.le_refl 0⟩ (fun rr_ M_2 H locs hq hP hS => ?_)
        obtain ⟨r_3, rfl, hw⟩ := hq
        refine lv_pop hx hb dX9_feed_71 rfl ?_
        obtain ⟨x_4, ex_4⟩ : ∃ z : Int32, z = v4 + 1 := ⟨_, rfl⟩
        have hw := hw x_4 ex_4
        refine lv_iinc (v := x_4) (lv' := [(4, .int x_4), (0, .ref (G.1 + h)), (1, .long w1), (3, .int v3)]) hx hb dX9_feed_72 hl (k := 3) rfl (by rw [ex_4]; rfl) (by decide) rfl (fun ls hl => ?_)
        refine lv_goto (tgt := 43) hx hb dX9_feed_75 (by decide) ?_
        exact ih43 x_4 M_2 _ _ _ hw hP hS (lv_sub hl [1, 2, 3, 0] rfl)
  have J_11 : ∀  (M : Mem) (H : Heap) (locs : List Loc) (ls : Array Slot), b_X9_feed_11 h Q M → va_P G.2.1 clsA (wl G M) H → va_S (inW G) s.heap H locs → lv_has ls 5 [(0, .ref (G.1 + h))] → W p l e ({ frames := 1, cells := 0, slots := 0, locals := 21 } : Room) s m ([.ref (G.1 + h), .long a1, .int a3] : List Value).toArray below meth c H locs 0 0 (MQ below (Pq G (Qi Q)) ([.ref (G.1 + h), .long a1, .int a3] : List Value).toArray s 0 0 (inW G)) (F0 m 11 ls []) := by
    intro  M H locs ls  hw hP hS hl
    unfold b_X9_feed_11 at hw
    refine lv_aload_n hx hb dX9_feed_11 rfl (lv_at hl 0 rfl) ?_
    refine lv_iconst (v := 1) hx hb dX9_feed_12 (by decide) ?_
    refine mw_V (As := [.int 1]) (rest := []) (T := TX9) (N := 8) (n := 1) ⟨hx, hb, hml, hown, hts⟩ (so_X9_refuse l G h 1 M _ hw) wm_RX9_59 wi_yX9_refuse wv_yX9_refuse wn_RX9 wc_yX9_refuse (by decide) ⟨Nat.le_of_ble_eq_true rfl, Nat.le_of_ble_eq_true rfl⟩ ⟨rfl, rfl⟩ kh (by decide) (mk9 kh) rfl hSt hTb hP hS rfl hl.1 rfl (Nat.le_of_ble_eq_true rfl) dX9_feed_13 ⟨Nat.le_refl 0, Nat.le_refl 0⟩ (fun rr_ M_5 H locs hq hP hS => ?_)
    obtain ⟨r_6, rfl, hw⟩ := hq
    exact W.iret hx hb hr (mw_end hP hSt hTb hS ⟨_, rfl, hw⟩) hS.2.2 dX9_feed_16
  refine lv_iload_n hx hb dX9_feed_0 rfl (lv_at hl 2 rfl) ?_
  refine lv_iconst (v := 1) hx hb dX9_feed_1 (by decide) ?_
  refine lv_icmp_lt (tgt := 11) hx hb dX9_feed_2 (by decide) (fun c_7 => ?_) (fun c_7 => ?_)
  · have hw := hw.1 c_7
    exact J_11 M _ _ _ hw hP hS (lv_sub hl [0] rfl)
  · have hw := hw.2 c_7
    refine lv_iload_n hx hb dX9_feed_5 rfl (lv_at hl 2 rfl) ?_
    refine lv_bipush (v := 8) hx hb dX9_feed_6 (by decide) ?_
    refine lv_icmp_le (tgt := 17) hx hb dX9_feed_8 (by decide) (fun c_8 => ?_) (fun c_8 => ?_)
    · have hw := hw.1 c_8
      refine lv_aload_n hx hb dX9_feed_17 rfl (lv_at hl 0 rfl) ?_
      refine mw_get (ci := 9) (v := .ref (G.1 + (h + 1))) (C := RX9) (T := TX9) (N := 8) hx hb ht inX9 hown hSt hP kh (by decide) (mk9 kh) rfl 0 (by decide) (ht _ wf_RX9_10) rfl rfl dX9_feed_18 ?_
      refine mw_get (ci := 8) (v := .ref (G.1 + (h + 1 + 30))) (C := RX8) (T := TX8) (N := 4) hx hb ht inX8 hown hSt hP (ks9_0 kh) (by decide) (mk8 (ks9_0 kh)) rfl 1 (by decide) (ht _ wf_RX9_149) rfl rfl dX9_feed_21 ?_
      refine mw_get (ci := 3) (v := .int (M (h + 1 + 30) 1)) (C := RX3) (T := TX3) (N := 2) hx hb ht inX3 hown hSt hP (ks8_1 (ks9_0 kh)) (by decide) (mk3 (ks8_1 (ks9_0 kh))) rfl 1 (by decide) (ht _ wf_RX9_153) rfl rfl dX9_feed_24 ?_
      refine lv_iload_n hx hb dX9_feed_27 rfl (lv_at hl 2 rfl) ?_
      refine lv_iadd hx hb dX9_feed_28 ?_
      refine lv_bipush (v := 50) hx hb dX9_feed_29 (by decide) ?_
      refine lv_icmp_le (tgt := 40) hx hb dX9_feed_31 (by decide) (fun c_9 => ?_) (fun c_9 => ?_)
      · have hw := hw.1 c_9
        refine lv_iconst (v := 0) hx hb dX9_feed_40 (by decide) ?_
        refine lv_istore (lv' := [(4, .int 0), (0, .ref (G.1 + h)), (1, .long a1), (3, .int a3)]) hx hb dX9_feed_41 hl (by decide) rfl (fun ls hl => ?_)
        obtain ⟨n_, hw⟩ := hw
        exact L_43 a1 a3 n_ 0 M _ _ _ hw hP hS (lv_sub hl [1, 2, 3, 0] rfl)
      · have hw := hw.2 c_9
        refine lv_aload_n hx hb dX9_feed_34 rfl (lv_at hl 0 rfl) ?_
        refine lv_iconst (v := 4) hx hb dX9_feed_35 (by decide) ?_
        refine mw_V (As := [.int 4]) (rest := []) (T := TX9) (N := 8) (n := 1) ⟨hx, hb, hml, hown, hts⟩ (so_X9_refuse l G h 4 M _ hw) wm_RX9_59 wi_yX9_refuse wv_yX9_refuse wn_RX9 wc_yX9_refuse (by decide) ⟨Nat.le_of_ble_eq_true rfl, Nat.le_of_ble_eq_true rfl⟩ ⟨rfl, rfl⟩ kh (by decide) (mk9 kh) rfl hSt hTb hP hS rfl hl.1 rfl (Nat.le_of_ble_eq_true rfl) dX9_feed_36 ⟨Nat.le_refl 0, Nat.le_refl 0⟩ (fun rr_ M_10 H locs hq hP hS => ?_)
        obtain ⟨r_11, rfl, hw⟩ := hq
        exact W.iret hx hb hr (mw_end hP hSt hTb hS ⟨_, rfl, hw⟩) hS.2.2 dX9_feed_39
    · have hw := hw.2 c_8
      exact J_11 M _ _ _ hw hP hS (lv_sub hl [0] rfl)
def wp_X9_text (h : Nat) (a1 : Int32) (M : Mem) (Q : Int32 → Mem → Prop) : Prop :=
  kdT h = 9 ∧ (wp_X9_isWithin a1 1 M (fun r_2 M_1 => (¬ r_2 = 0 → wp_X2_read (h + 98) (h + 1 + 30) a1 M_1 (fun r_5 M_4 => wp_X3_clear (h + 1 + 30) M_4 (fun M_6 => (¬ r_5 = 0 → wp_X1_lawOf (h + 1 + 1) a1 M_6 (fun q_9 M_8 => kdT q_9 = 0 ∧ (wp_X3_copyFrom (q_9 + 1) (h + 98 + 3) M_8 (fun M_11 => Q 1 M_11)))) ∧ (r_5 = 0 → Q ((-10) - (M_6 (h + 98) 3)) M_6)))) ∧ (r_2 = 0 → wp_X9_refuse h 1 M_1 (fun r_13 M_12 => Q r_13 M_12))))
set_option maxHeartbeats 4000000 in
set_option maxRecDepth 100000 in
theorem so_X9_text (l : Launch) (G : Gm) (h : Nat) (a1 : Int32) (M : Mem) (Q : Int32 → Mem → Prop) (hw : wp_X9_text h a1 M Q) : Ct l G yX9_text cX9_text 3 (some .int) ({ frames := 65, cells := 0, slots := 0, locals := 1610 } : Room) [.ref (G.1 + h), .int a1] M (Qi Q) := by
  unfold wp_X9_text at hw
  obtain ⟨kh, hw⟩ := hw
  refine ct_of (by decide) (Nat.le_of_ble_eq_true rfl) ?_
  intro p e s m below meth c E_ ls H hl hP hS
  obtain ⟨hx, hb, hml, hown, hts, ht, hr, hlocks, hSt, hTb⟩ := E_
  have hl : lv_has ls 3 [(0, .ref (G.1 + h)), (1, .int a1)] := hl
  refine lv_iload_n hx hb dX9_text_0 rfl (lv_at hl 1 rfl) ?_
  refine lv_iconst (v := 1) hx hb dX9_text_1 (by decide) ?_
  refine mw_Sx (As := [.int a1, .int 1]) (rest := []) (n := 2) ⟨hx, hb, hml, hown, hts⟩ (so_X9_isWithin l G a1 1 M _ hw) wm_RX9_55 wt_yX9_isWithin wn_RX9 wc_yX9_isWithin (by decide) ⟨Nat.le_of_ble_eq_true rfl, Nat.le_of_ble_eq_true rfl⟩ ⟨rfl, rfl⟩ hSt hTb hP hS rfl hl.1 rfl (Nat.le_of_ble_eq_true rfl) dX9_text_2 ⟨Nat.le_refl 0, Nat.le_refl 0⟩ (fun rr_ M_1 H locs hq hP hS => ?_)
  obtain ⟨r_2, rfl, hw⟩ := hq
  refine lv_if_ne (tgt := 14) hx hb dX9_text_5 (by decide) (fun c_3 => ?_) (fun c_3 => ?_)
  · have hw := hw.1 c_3
    refine lv_aload_n hx hb dX9_text_14 rfl (lv_at hl 0 rfl) ?_
    refine mw_get (ci := 9) (v := .ref (G.1 + (h + 98))) (C := RX9) (T := TX9) (N := 8) hx hb ht inX9 hown hSt hP kh (by decide) (mk9 kh) rfl 3 (by decide) (ht _ wf_RX9_29) rfl rfl dX9_text_15 ?_
    refine lv_aload_n hx hb dX9_text_18 rfl (lv_at hl 0 rfl) ?_
    refine mw_get (ci := 9) (v := .ref (G.1 + (h + 1))) (C := RX9) (T := TX9) (N := 8) hx hb ht inX9 hown hSt hP kh (by decide) (mk9 kh) rfl 0 (by decide) (ht _ wf_RX9_10) rfl rfl dX9_text_19 ?_
    refine mw_get (ci := 8) (v := .ref (G.1 + (h + 1 + 30))) (C := RX8) (T := TX8) (N := 4) hx hb ht inX8 hown hSt hP (ks9_0 kh) (by decide) (mk8 (ks9_0 kh)) rfl 1 (by decide) (ht _ wf_RX9_149) rfl rfl dX9_text_22 ?_
    refine lv_iload_n hx hb dX9_text_25 rfl (lv_at hl 1 rfl) ?_
    refine mw_V (As := [.ref (G.1 + (h + 1 + 30)), .int a1]) (rest := []) (T := TX2) (N := 4) (n := 2) ⟨hx, hb, hml, hown, hts⟩ (so_X2_read l G (h + 98) (h + 1 + 30) a1 M_1 _ hw) wm_RX9_161 wi_yX2_read wv_yX2_read wn_RX2 wc_yX2_read (by decide) ⟨Nat.le_of_ble_eq_true rfl, Nat.le_of_ble_eq_true rfl⟩ ⟨rfl, rfl⟩ (ks9_3 kh) (by decide) (mk2 (ks9_3 kh)) rfl hSt hTb hP hS rfl hl.1 rfl (Nat.le_of_ble_eq_true rfl) dX9_text_26 ⟨Nat.le_refl 0, Nat.le_refl 0⟩ (fun rr_ M_4 H locs hq hP hS => ?_)
    obtain ⟨r_5, rfl, hw⟩ := hq
    refine lv_istore_n (lv' := [(2, .int r_5), (0, .ref (G.1 + h)), (1, .int a1)]) hx hb dX9_text_29 rfl hl (by decide) rfl (fun ls hl => ?_)
    refine lv_aload_n hx hb dX9_text_30 rfl (lv_at hl 1 rfl) ?_
    refine mw_get (ci := 9) (v := .ref (G.1 + (h + 1))) (C := RX9) (T := TX9) (N := 8) hx hb ht inX9 hown hSt hP kh (by decide) (mk9 kh) rfl 0 (by decide) (ht _ wf_RX9_10) rfl rfl dX9_text_31 ?_
    refine mw_get (ci := 8) (v := .ref (G.1 + (h + 1 + 30))) (C := RX8) (T := TX8) (N := 4) hx hb ht inX8 hown hSt hP (ks9_0 kh) (by decide) (mk8 (ks9_0 kh)) rfl 1 (by decide) (ht _ wf_RX9_149) rfl rfl dX9_text_34 ?_
    refine mw_V (As := []) (rest := []) (T := TX3) (N := 2) (n := 0) ⟨hx, hb, hml, hown, hts⟩ (so_X3_clear l G (h + 1 + 30) M_4 _ hw) wm_RX9_165 wi_yX3_clear wv_yX3_clear wn_RX3 wc_yX3_clear (by decide) ⟨Nat.le_of_ble_eq_true rfl, Nat.le_of_ble_eq_true rfl⟩ ⟨rfl, rfl⟩ (ks8_1 (ks9_0 kh)) (by decide) (mk3 (ks8_1 (ks9_0 kh))) rfl hSt hTb hP hS rfl hl.1 rfl (Nat.le_of_ble_eq_true rfl) dX9_text_37 ⟨Nat.le_refl 0, Nat.le_refl 0⟩ (fun rr_ M_6 H locs hq hP hS => ?_)
    obtain ⟨rfl, hw⟩ := hq
    refine lv_iload_n hx hb dX9_text_40 rfl (lv_at hl 0 rfl) ?_
    refine lv_if_ne (tgt := 55) hx hb dX9_text_41 (by decide) (fun c_7 => ?_) (fun c_7 => ?_)
    · have hw := hw.1 c_7
      refine lv_aload_n hx hb dX9_text_55 rfl (lv_at hl 1 rfl) ?_
      refine mw_get (ci := 9) (v := .ref (G.1 + (h + 1))) (C := RX9) (T := TX9) (N := 8) hx hb ht inX9 hown hSt hP kh (by decide) (mk9 kh) rfl 0 (by decide) (ht _ wf_RX9_10) rfl rfl dX9_text_56 ?_
      refine mw_get (ci := 8) (v := .ref (G.1 + (h + 1 + 1))) (C := RX8) (T := TX8) (N := 4) hx hb ht inX8 hown hSt hP (ks9_0 kh) (by decide) (mk8 (ks9_0 kh)) rfl 0 (by decide) (ht _ wf_RX9_63) rfl rfl dX9_text_59 ?_
      refine lv_iload_n hx hb dX9_text_62 rfl (lv_at hl 2 rfl) ?_
      refine mw_V (As := [.int a1]) (rest := []) (T := TX1) (N := 9) (n := 1) ⟨hx, hb, hml, hown, hts⟩ (so_X1_lawOf l G (h + 1 + 1) a1 M_6 _ hw) wm_RX9_171 wi_yX1_lawOf wv_yX1_lawOf wn_RX1 wc_yX1_lawOf (by decide) ⟨Nat.le_of_ble_eq_true rfl, Nat.le_of_ble_eq_true rfl⟩ ⟨rfl, rfl⟩ (ks8_0 (ks9_0 kh)) (by decide) (mk1 (ks8_0 (ks9_0 kh))) rfl hSt hTb hP hS rfl hl.1 rfl (Nat.le_of_ble_eq_true rfl) dX9_text_63 ⟨Nat.le_refl 0, Nat.le_refl 0⟩ (fun rr_ M_8 H locs hq hP hS => ?_)
      obtain ⟨q_9, rfl, hw⟩ := hq
      obtain ⟨c_10, hw⟩ := hw
      refine mw_get (ci := 0) (v := .ref (G.1 + (q_9 + 1))) (C := RX0) (T := TX0) (N := 3) hx hb ht inX0 hown hSt hP c_10 (by decide) (mk0 c_10) rfl 1 (by decide) (ht _ wf_RX9_175) rfl rfl dX9_text_66 ?_
      refine lv_aload_n hx hb dX9_text_69 rfl (lv_at hl 1 rfl) ?_
      refine mw_get (ci := 9) (v := .ref (G.1 + (h + 98))) (C := RX9) (T := TX9) (N := 8) hx hb ht inX9 hown hSt hP kh (by decide) (mk9 kh) rfl 3 (by decide) (ht _ wf_RX9_29) rfl rfl dX9_text_70 ?_
      refine mw_get (ci := 2) (v := .ref (G.1 + (h + 98 + 3))) (C := RX2) (T := TX2) (N := 4) hx hb ht inX2 hown hSt hP (ks9_3 kh) (by decide) (mk2 (ks9_3 kh)) rfl 1 (by decide) (ht _ wf_RX9_180) rfl rfl dX9_text_73 ?_
      refine mw_V (As := [.ref (G.1 + (h + 98 + 3))]) (rest := []) (T := TX3) (N := 2) (n := 1) ⟨hx, hb, hml, hown, hts⟩ (so_X3_copyFrom l G (q_9 + 1) (h + 98 + 3) M_8 _ hw) wm_RX9_181 wi_yX3_copyFrom wv_yX3_copyFrom wn_RX3 wc_yX3_copyFrom (by decide) ⟨Nat.le_of_ble_eq_true rfl, Nat.le_of_ble_eq_true rfl⟩ ⟨rfl, rfl⟩ (ks0_1 c_10) (by decide) (mk3 (ks0_1 c_10)) rfl hSt hTb hP hS rfl hl.1 rfl (Nat.le_of_ble_eq_true rfl) dX9_text_76 ⟨Nat.le_refl 0, Nat.le_refl 0⟩ (fun rr_ M_11 H locs hq hP hS => ?_)
      obtain ⟨rfl, hw⟩ := hq
      refine lv_iconst (v := 1) hx hb dX9_text_79 (by decide) ?_
      exact W.iret hx hb hr (mw_end hP hSt hTb hS ⟨_, rfl, hw⟩) hS.2.2 dX9_text_80
    · have hw := hw.2 c_7
      refine lv_bipush (v := (-10)) hx hb dX9_text_44 (by decide) ?_
      refine lv_aload_n hx hb dX9_text_46 rfl (lv_at hl 1 rfl) ?_
      refine mw_get (ci := 9) (v := .ref (G.1 + (h + 98))) (C := RX9) (T := TX9) (N := 8) hx hb ht inX9 hown hSt hP kh (by decide) (mk9 kh) rfl 3 (by decide) (ht _ wf_RX9_29) rfl rfl dX9_text_47 ?_
      refine mw_get (ci := 2) (v := .int (M_6 (h + 98) 3)) (C := RX2) (T := TX2) (N := 4) hx hb ht inX2 hown hSt hP (ks9_3 kh) (by decide) (mk2 (ks9_3 kh)) rfl 3 (by decide) (ht _ wf_RX9_168) rfl rfl dX9_text_50 ?_
      refine lv_isub hx hb dX9_text_53 ?_
      exact W.iret hx hb hr (mw_end hP hSt hTb hS ⟨_, rfl, hw⟩) hS.2.2 dX9_text_54
  · have hw := hw.2 c_3
    refine lv_aload_n hx hb dX9_text_8 rfl (lv_at hl 0 rfl) ?_
    refine lv_iconst (v := 1) hx hb dX9_text_9 (by decide) ?_
    refine mw_V (As := [.int 1]) (rest := []) (T := TX9) (N := 8) (n := 1) ⟨hx, hb, hml, hown, hts⟩ (so_X9_refuse l G h 1 M_1 _ hw) wm_RX9_59 wi_yX9_refuse wv_yX9_refuse wn_RX9 wc_yX9_refuse (by decide) ⟨Nat.le_of_ble_eq_true rfl, Nat.le_of_ble_eq_true rfl⟩ ⟨rfl, rfl⟩ kh (by decide) (mk9 kh) rfl hSt hTb hP hS rfl hl.1 rfl (Nat.le_of_ble_eq_true rfl) dX9_text_10 ⟨Nat.le_refl 0, Nat.le_refl 0⟩ (fun rr_ M_12 H locs hq hP hS => ?_)
    obtain ⟨r_13, rfl, hw⟩ := hq
    exact W.iret hx hb hr (mw_end hP hSt hTb hS ⟨_, rfl, hw⟩) hS.2.2 dX9_text_13
def wp_X9_law (h : Nat) (a1 : Int32) (a2 : Int32) (a3 : Int32) (a4 : Int32) (M : Mem) (Q : Int32 → Mem → Prop) : Prop :=
  kdT h = 9 ∧ (wp_X9_isWithin a1 1 M (fun r_2 M_1 => (¬ r_2 = 0 → wp_X1_lawOf (h + 1 + 1) a1 M_1 (fun q_5 M_4 => kdT q_5 = 0 ∧ (wp_X0_gives q_5 a2 a3 a4 M_4 (fun r_8 M_7 => Q r_8 M_7)))) ∧ (r_2 = 0 → wp_X9_refuse h 1 M_1 (fun r_10 M_9 => Q r_10 M_9))))
set_option maxHeartbeats 4000000 in
set_option maxRecDepth 100000 in
theorem so_X9_law (l : Launch) (G : Gm) (h : Nat) (a1 : Int32) (a2 : Int32) (a3 : Int32) (a4 : Int32) (M : Mem) (Q : Int32 → Mem → Prop) (hw : wp_X9_law h a1 a2 a3 a4 M Q) : Ct l G yX9_law cX9_law 5 (some .int) ({ frames := 3, cells := 0, slots := 0, locals := 83 } : Room) [.ref (G.1 + h), .int a1, .int a2, .int a3, .int a4] M (Qi Q) := by
  unfold wp_X9_law at hw
  obtain ⟨kh, hw⟩ := hw
  refine ct_of (by decide) (Nat.le_of_ble_eq_true rfl) ?_
  intro p e s m below meth c E_ ls H hl hP hS
  obtain ⟨hx, hb, hml, hown, hts, ht, hr, hlocks, hSt, hTb⟩ := E_
  have hl : lv_has ls 5 [(0, .ref (G.1 + h)), (1, .int a1), (2, .int a2), (3, .int a3), (4, .int a4)] := hl
  refine lv_iload_n hx hb dX9_law_0 rfl (lv_at hl 1 rfl) ?_
  refine lv_iconst (v := 1) hx hb dX9_law_1 (by decide) ?_
  refine mw_Sx (As := [.int a1, .int 1]) (rest := []) (n := 2) ⟨hx, hb, hml, hown, hts⟩ (so_X9_isWithin l G a1 1 M _ hw) wm_RX9_55 wt_yX9_isWithin wn_RX9 wc_yX9_isWithin (by decide) ⟨Nat.le_of_ble_eq_true rfl, Nat.le_of_ble_eq_true rfl⟩ ⟨rfl, rfl⟩ hSt hTb hP hS rfl hl.1 rfl (Nat.le_of_ble_eq_true rfl) dX9_law_2 ⟨Nat.le_refl 0, Nat.le_refl 0⟩ (fun rr_ M_1 H locs hq hP hS => ?_)
  obtain ⟨r_2, rfl, hw⟩ := hq
  refine lv_if_ne (tgt := 14) hx hb dX9_law_5 (by decide) (fun c_3 => ?_) (fun c_3 => ?_)
  · have hw := hw.1 c_3
    refine lv_aload_n hx hb dX9_law_14 rfl (lv_at hl 0 rfl) ?_
    refine mw_get (ci := 9) (v := .ref (G.1 + (h + 1))) (C := RX9) (T := TX9) (N := 8) hx hb ht inX9 hown hSt hP kh (by decide) (mk9 kh) rfl 0 (by decide) (ht _ wf_RX9_10) rfl rfl dX9_law_15 ?_
    refine mw_get (ci := 8) (v := .ref (G.1 + (h + 1 + 1))) (C := RX8) (T := TX8) (N := 4) hx hb ht inX8 hown hSt hP (ks9_0 kh) (by decide) (mk8 (ks9_0 kh)) rfl 0 (by decide) (ht _ wf_RX9_63) rfl rfl dX9_law_18 ?_
    refine lv_iload_n hx hb dX9_law_21 rfl (lv_at hl 1 rfl) ?_
    refine mw_V (As := [.int a1]) (rest := []) (T := TX1) (N := 9) (n := 1) ⟨hx, hb, hml, hown, hts⟩ (so_X1_lawOf l G (h + 1 + 1) a1 M_1 _ hw) wm_RX9_171 wi_yX1_lawOf wv_yX1_lawOf wn_RX1 wc_yX1_lawOf (by decide) ⟨Nat.le_of_ble_eq_true rfl, Nat.le_of_ble_eq_true rfl⟩ ⟨rfl, rfl⟩ (ks8_0 (ks9_0 kh)) (by decide) (mk1 (ks8_0 (ks9_0 kh))) rfl hSt hTb hP hS rfl hl.1 rfl (Nat.le_of_ble_eq_true rfl) dX9_law_22 ⟨Nat.le_refl 0, Nat.le_refl 0⟩ (fun rr_ M_4 H locs hq hP hS => ?_)
    obtain ⟨q_5, rfl, hw⟩ := hq
    obtain ⟨c_6, hw⟩ := hw
    refine lv_iload_n hx hb dX9_law_25 rfl (lv_at hl 2 rfl) ?_
    refine lv_iload_n hx hb dX9_law_26 rfl (lv_at hl 3 rfl) ?_
    refine lv_iload hx hb dX9_law_27 (lv_at hl 4 rfl) ?_
    refine mw_V (As := [.int a2, .int a3, .int a4]) (rest := []) (T := TX0) (N := 3) (n := 3) ⟨hx, hb, hml, hown, hts⟩ (so_X0_gives l G q_5 a2 a3 a4 M_4 _ hw) wm_RX9_185 wi_yX0_gives wv_yX0_gives wn_RX0 wc_yX0_gives (by decide) ⟨Nat.le_of_ble_eq_true rfl, Nat.le_of_ble_eq_true rfl⟩ ⟨rfl, rfl⟩ c_6 (by decide) (mk0 c_6) rfl hSt hTb hP hS rfl hl.1 rfl (Nat.le_of_ble_eq_true rfl) dX9_law_29 ⟨Nat.le_refl 0, Nat.le_refl 0⟩ (fun rr_ M_7 H locs hq hP hS => ?_)
    obtain ⟨r_8, rfl, hw⟩ := hq
    exact W.iret hx hb hr (mw_end hP hSt hTb hS ⟨_, rfl, hw⟩) hS.2.2 dX9_law_32
  · have hw := hw.2 c_3
    refine lv_aload_n hx hb dX9_law_8 rfl (lv_at hl 0 rfl) ?_
    refine lv_iconst (v := 1) hx hb dX9_law_9 (by decide) ?_
    refine mw_V (As := [.int 1]) (rest := []) (T := TX9) (N := 8) (n := 1) ⟨hx, hb, hml, hown, hts⟩ (so_X9_refuse l G h 1 M_1 _ hw) wm_RX9_59 wi_yX9_refuse wv_yX9_refuse wn_RX9 wc_yX9_refuse (by decide) ⟨Nat.le_of_ble_eq_true rfl, Nat.le_of_ble_eq_true rfl⟩ ⟨rfl, rfl⟩ kh (by decide) (mk9 kh) rfl hSt hTb hP hS rfl hl.1 rfl (Nat.le_of_ble_eq_true rfl) dX9_law_10 ⟨Nat.le_refl 0, Nat.le_refl 0⟩ (fun rr_ M_9 H locs hq hP hS => ?_)
    obtain ⟨r_10, rfl, hw⟩ := hq
    exact W.iret hx hb hr (mw_end hP hSt hTb hS ⟨_, rfl, hw⟩) hS.2.2 dX9_law_13
def b_X9_hours_11 (h : Nat) (Q : Int32 → Mem → Prop) (M : Mem) : Prop :=
  wp_X9_refuse h 1 M (fun r_2 M_1 => Q r_2 M_1)
def wp_X9_hours (h : Nat) (a1 : Int32) (M : Mem) (Q : Int32 → Mem → Prop) : Prop :=
  kdT h = 9 ∧ ((a1 < 1 → b_X9_hours_11 h Q M) ∧ (¬ a1 < 1 → (a1 ≤ 60 → (((M (h + 1 + 1) 8) + a1) ≤ 9999 → wp_X1_passHours (h + 1 + 1) a1 M (fun M_6 => wp_X1_foundSet (h + 1 + 1) M_6 (fun r_8 M_7 => Q r_8 M_7))) ∧ (¬ ((M (h + 1 + 1) 8) + a1) ≤ 9999 → wp_X9_refuse h 3 M (fun r_10 M_9 => Q r_10 M_9))) ∧ (¬ a1 ≤ 60 → b_X9_hours_11 h Q M)))
set_option maxHeartbeats 4000000 in
set_option maxRecDepth 100000 in
theorem so_X9_hours (l : Launch) (G : Gm) (h : Nat) (a1 : Int32) (M : Mem) (Q : Int32 → Mem → Prop) (hw : wp_X9_hours h a1 M Q) : Ct l G yX9_hours cX9_hours 2 (some .int) ({ frames := 6, cells := 0, slots := 0, locals := 167 } : Room) [.ref (G.1 + h), .int a1] M (Qi Q) := by
  unfold wp_X9_hours at hw
  obtain ⟨kh, hw⟩ := hw
  refine ct_of (by decide) (Nat.le_of_ble_eq_true rfl) ?_
  intro p e s m below meth c E_ ls H hl hP hS
  obtain ⟨hx, hb, hml, hown, hts, ht, hr, hlocks, hSt, hTb⟩ := E_
  have hl : lv_has ls 2 [(0, .ref (G.1 + h)), (1, .int a1)] := hl
  have J_11 : ∀  (M : Mem) (H : Heap) (locs : List Loc) (ls : Array Slot), b_X9_hours_11 h Q M → va_P G.2.1 clsA (wl G M) H → va_S (inW G) s.heap H locs → lv_has ls 2 [(0, .ref (G.1 + h))] → W p l e ({ frames := 6, cells := 0, slots := 0, locals := 167 } : Room) s m ([.ref (G.1 + h), .int a1] : List Value).toArray below meth c H locs 0 0 (MQ below (Pq G (Qi Q)) ([.ref (G.1 + h), .int a1] : List Value).toArray s 0 0 (inW G)) (F0 m 11 ls []) := by
    intro  M H locs ls  hw hP hS hl
    unfold b_X9_hours_11 at hw
    refine lv_aload_n hx hb dX9_hours_11 rfl (lv_at hl 0 rfl) ?_
    refine lv_iconst (v := 1) hx hb dX9_hours_12 (by decide) ?_
    refine mw_V (As := [.int 1]) (rest := []) (T := TX9) (N := 8) (n := 1) ⟨hx, hb, hml, hown, hts⟩ (so_X9_refuse l G h 1 M _ hw) wm_RX9_59 wi_yX9_refuse wv_yX9_refuse wn_RX9 wc_yX9_refuse (by decide) ⟨Nat.le_of_ble_eq_true rfl, Nat.le_of_ble_eq_true rfl⟩ ⟨rfl, rfl⟩ kh (by decide) (mk9 kh) rfl hSt hTb hP hS rfl hl.1 rfl (Nat.le_of_ble_eq_true rfl) dX9_hours_13 ⟨Nat.le_refl 0, Nat.le_refl 0⟩ (fun rr_ M_1 H locs hq hP hS => ?_)
    obtain ⟨r_2, rfl, hw⟩ := hq
    exact W.iret hx hb hr (mw_end hP hSt hTb hS ⟨_, rfl, hw⟩) hS.2.2 dX9_hours_16
  refine lv_iload_n hx hb dX9_hours_0 rfl (lv_at hl 1 rfl) ?_
  refine lv_iconst (v := 1) hx hb dX9_hours_1 (by decide) ?_
  refine lv_icmp_lt (tgt := 11) hx hb dX9_hours_2 (by decide) (fun c_3 => ?_) (fun c_3 => ?_)
  · have hw := hw.1 c_3
    exact J_11 M _ _ _ hw hP hS (lv_sub hl [0] rfl)
  · have hw := hw.2 c_3
    refine lv_iload_n hx hb dX9_hours_5 rfl (lv_at hl 1 rfl) ?_
    refine lv_bipush (v := 60) hx hb dX9_hours_6 (by decide) ?_
    refine lv_icmp_le (tgt := 17) hx hb dX9_hours_8 (by decide) (fun c_4 => ?_) (fun c_4 => ?_)
    · have hw := hw.1 c_4
      refine lv_aload_n hx hb dX9_hours_17 rfl (lv_at hl 0 rfl) ?_
      refine mw_get (ci := 9) (v := .ref (G.1 + (h + 1))) (C := RX9) (T := TX9) (N := 8) hx hb ht inX9 hown hSt hP kh (by decide) (mk9 kh) rfl 0 (by decide) (ht _ wf_RX9_10) rfl rfl dX9_hours_18 ?_
      refine mw_get (ci := 8) (v := .ref (G.1 + (h + 1 + 1))) (C := RX8) (T := TX8) (N := 4) hx hb ht inX8 hown hSt hP (ks9_0 kh) (by decide) (mk8 (ks9_0 kh)) rfl 0 (by decide) (ht _ wf_RX9_63) rfl rfl dX9_hours_21 ?_
      refine mw_get (ci := 1) (v := .int (M (h + 1 + 1) 8)) (C := RX1) (T := TX1) (N := 9) hx hb ht inX1 hown hSt hP (ks8_0 (ks9_0 kh)) (by decide) (mk1 (ks8_0 (ks9_0 kh))) rfl 8 (by decide) (ht _ wf_RX9_134) rfl rfl dX9_hours_24 ?_
      refine lv_iload_n hx hb dX9_hours_27 rfl (lv_at hl 1 rfl) ?_
      refine lv_iadd hx hb dX9_hours_28 ?_
      refine lv_sipush (v := 9999) hx hb dX9_hours_29 (by decide) ?_
      refine lv_icmp_le (tgt := 41) hx hb dX9_hours_32 (by decide) (fun c_5 => ?_) (fun c_5 => ?_)
      · have hw := hw.1 c_5
        refine lv_aload_n hx hb dX9_hours_41 rfl (lv_at hl 0 rfl) ?_
        refine mw_get (ci := 9) (v := .ref (G.1 + (h + 1))) (C := RX9) (T := TX9) (N := 8) hx hb ht inX9 hown hSt hP kh (by decide) (mk9 kh) rfl 0 (by decide) (ht _ wf_RX9_10) rfl rfl dX9_hours_42 ?_
        refine mw_get (ci := 8) (v := .ref (G.1 + (h + 1 + 1))) (C := RX8) (T := TX8) (N := 4) hx hb ht inX8 hown hSt hP (ks9_0 kh) (by decide) (mk8 (ks9_0 kh)) rfl 0 (by decide) (ht _ wf_RX9_63) rfl rfl dX9_hours_45 ?_
        refine lv_iload_n hx hb dX9_hours_48 rfl (lv_at hl 1 rfl) ?_
        refine mw_V (As := [.int a1]) (rest := []) (T := TX1) (N := 9) (n := 1) ⟨hx, hb, hml, hown, hts⟩ (so_X1_passHours l G (h + 1 + 1) a1 M _ hw) wm_RX9_189 wi_yX1_passHours wv_yX1_passHours wn_RX1 wc_yX1_passHours (by decide) ⟨Nat.le_of_ble_eq_true rfl, Nat.le_of_ble_eq_true rfl⟩ ⟨rfl, rfl⟩ (ks8_0 (ks9_0 kh)) (by decide) (mk1 (ks8_0 (ks9_0 kh))) rfl hSt hTb hP hS rfl hl.1 rfl (Nat.le_of_ble_eq_true rfl) dX9_hours_49 ⟨Nat.le_refl 0, Nat.le_refl 0⟩ (fun rr_ M_6 H locs hq hP hS => ?_)
        obtain ⟨rfl, hw⟩ := hq
        refine lv_aload_n hx hb dX9_hours_52 rfl (lv_at hl 0 rfl) ?_
        refine mw_get (ci := 9) (v := .ref (G.1 + (h + 1))) (C := RX9) (T := TX9) (N := 8) hx hb ht inX9 hown hSt hP kh (by decide) (mk9 kh) rfl 0 (by decide) (ht _ wf_RX9_10) rfl rfl dX9_hours_53 ?_
        refine mw_get (ci := 8) (v := .ref (G.1 + (h + 1 + 1))) (C := RX8) (T := TX8) (N := 4) hx hb ht inX8 hown hSt hP (ks9_0 kh) (by decide) (mk8 (ks9_0 kh)) rfl 0 (by decide) (ht _ wf_RX9_63) rfl rfl dX9_hours_56 ?_
        refine mw_V (As := []) (rest := []) (T := TX1) (N := 9) (n := 0) ⟨hx, hb, hml, hown, hts⟩ (so_X1_foundSet l G (h + 1 + 1) M_6 _ hw) wm_RX9_193 wi_yX1_foundSet wv_yX1_foundSet wn_RX1 wc_yX1_foundSet (by decide) ⟨Nat.le_of_ble_eq_true rfl, Nat.le_of_ble_eq_true rfl⟩ ⟨rfl, rfl⟩ (ks8_0 (ks9_0 kh)) (by decide) (mk1 (ks8_0 (ks9_0 kh))) rfl hSt hTb hP hS rfl hl.1 rfl (Nat.le_of_ble_eq_true rfl) dX9_hours_59 ⟨Nat.le_refl 0, Nat.le_refl 0⟩ (fun rr_ M_7 H locs hq hP hS => ?_)
        obtain ⟨r_8, rfl, hw⟩ := hq
        exact W.iret hx hb hr (mw_end hP hSt hTb hS ⟨_, rfl, hw⟩) hS.2.2 dX9_hours_62
      · have hw := hw.2 c_5
        refine lv_aload_n hx hb dX9_hours_35 rfl (lv_at hl 0 rfl) ?_
        refine lv_iconst (v := 3) hx hb dX9_hours_36 (by decide) ?_
        refine mw_V (As := [.int 3]) (rest := []) (T := TX9) (N := 8) (n := 1) ⟨hx, hb, hml, hown, hts⟩ (so_X9_refuse l G h 3 M _ hw) wm_RX9_59 wi_yX9_refuse wv_yX9_refuse wn_RX9 wc_yX9_refuse (by decide) ⟨Nat.le_of_ble_eq_true rfl, Nat.le_of_ble_eq_true rfl⟩ ⟨rfl, rfl⟩ kh (by decide) (mk9 kh) rfl hSt hTb hP hS rfl hl.1 rfl (Nat.le_of_ble_eq_true rfl) dX9_hours_37 ⟨Nat.le_refl 0, Nat.le_refl 0⟩ (fun rr_ M_9 H locs hq hP hS => ?_)
        obtain ⟨r_10, rfl, hw⟩ := hq
        exact W.iret hx hb hr (mw_end hP hSt hTb hS ⟨_, rfl, hw⟩) hS.2.2 dX9_hours_40
    · have hw := hw.2 c_4
      exact J_11 M _ _ _ hw hP hS (lv_sub hl [0] rfl)
def B_X9_loose_43 (h : Nat) (Q : Int32 → Mem → Prop) (v1 : Int32) (K43 : Int32 → Mem → Prop) (v2 : Int32) (M : Mem) : Prop :=
  (v1 ≤ v2 → wp_X1_foundSet (h + 1 + 1) M (fun r_3 M_2 => Q r_3 M_2)) ∧ (¬ v1 ≤ v2 → wp_X8_drift (h + 1) M (fun M_4 => wp_X1_passHours (h + 1 + 1) 1 M_4 (fun M_5 => ∀ x_6 : Int32, x_6 = v2 + 1 → K43 x_6 M_5)))
def l_X9_loose_43 (h : Nat) (Q : Int32 → Mem → Prop) (v1 : Int32) : Nat → Int32 → Mem → Prop
  | 0 => fun _ _ => False
  | n + 1 => B_X9_loose_43 h Q v1 (l_X9_loose_43 h Q v1 n)
def b_X9_loose_11 (h : Nat) (Q : Int32 → Mem → Prop) (M : Mem) : Prop :=
  wp_X9_refuse h 1 M (fun r_8 M_7 => Q r_8 M_7)
def wp_X9_loose (h : Nat) (a1 : Int32) (M : Mem) (Q : Int32 → Mem → Prop) : Prop :=
  kdT h = 9 ∧ ((a1 < 1 → b_X9_loose_11 h Q M) ∧ (¬ a1 < 1 → (a1 ≤ 40 → (((M (h + 1 + 1) 8) + a1) ≤ 9999 → ∃ n, l_X9_loose_43 h Q a1 n 0 M) ∧ (¬ ((M (h + 1 + 1) 8) + a1) ≤ 9999 → wp_X9_refuse h 3 M (fun r_13 M_12 => Q r_13 M_12))) ∧ (¬ a1 ≤ 40 → b_X9_loose_11 h Q M)))
set_option maxHeartbeats 4000000 in
set_option maxRecDepth 100000 in
theorem so_X9_loose (l : Launch) (G : Gm) (h : Nat) (a1 : Int32) (M : Mem) (Q : Int32 → Mem → Prop) (hw : wp_X9_loose h a1 M Q) : Ct l G yX9_loose cX9_loose 3 (some .int) ({ frames := 6, cells := 0, slots := 0, locals := 167 } : Room) [.ref (G.1 + h), .int a1] M (Qi Q) := by
  unfold wp_X9_loose at hw
  obtain ⟨kh, hw⟩ := hw
  refine ct_of (by decide) (Nat.le_of_ble_eq_true rfl) ?_
  intro p e s m below meth c E_ ls H hl hP hS
  obtain ⟨hx, hb, hml, hown, hts, ht, hr, hlocks, hSt, hTb⟩ := E_
  have hl : lv_has ls 3 [(0, .ref (G.1 + h)), (1, .int a1)] := hl
  have L_43 : ∀ (v1 : Int32), ∀ (n43 : Nat) (v2 : Int32) (M : Mem) (H : Heap) (locs : List Loc) (ls : Array Slot), l_X9_loose_43 h Q v1 n43 v2 M → va_P G.2.1 clsA (wl G M) H → va_S (inW G) s.heap H locs → lv_has ls 3 [(0, .ref (G.1 + h)), (1, .int v1), (2, .int v2)] → W p l e ({ frames := 6, cells := 0, slots := 0, locals := 167 } : Room) s m ([.ref (G.1 + h), .int a1] : List Value).toArray below meth c H locs 0 0 (MQ below (Pq G (Qi Q)) ([.ref (G.1 + h), .int a1] : List Value).toArray s 0 0 (inW G)) (F0 m 43 ls []) := by
    intro v1  n43
    induction n43 with
    | zero => intro v2 M H locs ls  hw hP hS hl; exact False.elim hw
    | succ n43 ih43 =>
      intro v2 M H locs ls  hw hP hS hl
      have hw : B_X9_loose_43 h Q v1 (l_X9_loose_43 h Q v1 n43) v2 M := hw
      unfold B_X9_loose_43 at hw
      refine lv_iload_n hx hb dX9_loose_43 rfl (lv_at hl 2 rfl) ?_
      refine lv_iload_n hx hb dX9_loose_44 rfl (lv_at hl 1 rfl) ?_
      refine lv_icmp_ge (tgt := 72) hx hb dX9_loose_45 (by decide) (fun c_1 => ?_) (fun c_1 => ?_)
      · have hw := hw.1 c_1
        refine lv_aload_n hx hb dX9_loose_72 rfl (lv_at hl 0 rfl) ?_
        refine mw_get (ci := 9) (v := .ref (G.1 + (h + 1))) (C := RX9) (T := TX9) (N := 8) hx hb ht inX9 hown hSt hP kh (by decide) (mk9 kh) rfl 0 (by decide) (ht _ wf_RX9_10) rfl rfl dX9_loose_73 ?_
        refine mw_get (ci := 8) (v := .ref (G.1 + (h + 1 + 1))) (C := RX8) (T := TX8) (N := 4) hx hb ht inX8 hown hSt hP (ks9_0 kh) (by decide) (mk8 (ks9_0 kh)) rfl 0 (by decide) (ht _ wf_RX9_63) rfl rfl dX9_loose_76 ?_
        refine mw_V (As := []) (rest := []) (T := TX1) (N := 9) (n := 0) ⟨hx, hb, hml, hown, hts⟩ (so_X1_foundSet l G (h + 1 + 1) M _ hw) wm_RX9_193 wi_yX1_foundSet wv_yX1_foundSet wn_RX1 wc_yX1_foundSet (by decide) ⟨Nat.le_of_ble_eq_true rfl, Nat.le_of_ble_eq_true rfl⟩ ⟨rfl, rfl⟩ (ks8_0 (ks9_0 kh)) (by decide) (mk1 (ks8_0 (ks9_0 kh))) rfl hSt hTb hP hS rfl hl.1 rfl (Nat.le_of_ble_eq_true rfl) dX9_loose_79 ⟨Nat.le_refl 0, Nat.le_refl 0⟩ (fun rr_ M_2 H locs hq hP hS => ?_)
        obtain ⟨r_3, rfl, hw⟩ := hq
        exact W.iret hx hb hr (mw_end hP hSt hTb hS ⟨_, rfl, hw⟩) hS.2.2 dX9_loose_82
      · have hw := hw.2 c_1
        refine lv_aload_n hx hb dX9_loose_48 rfl (lv_at hl 0 rfl) ?_
        refine mw_get (ci := 9) (v := .ref (G.1 + (h + 1))) (C := RX9) (T := TX9) (N := 8) hx hb ht inX9 hown hSt hP kh (by decide) (mk9 kh) rfl 0 (by decide) (ht _ wf_RX9_10) rfl rfl dX9_loose_49 ?_
        refine mw_V (As := []) (rest := []) (T := TX8) (N := 4) (n := 0) ⟨hx, hb, hml, hown, hts⟩ (so_X8_drift l G (h + 1) M _ hw) wm_RX9_197 wi_yX8_drift wv_yX8_drift wn_RX8 wc_yX8_drift (by decide) ⟨Nat.le_of_ble_eq_true rfl, Nat.le_of_ble_eq_true rfl⟩ ⟨rfl, rfl⟩ (ks9_0 kh) (by decide) (mk8 (ks9_0 kh)) rfl hSt hTb hP hS rfl hl.1 rfl (Nat.le_of_ble_eq_true rfl) dX9_loose_52 ⟨Nat.le_refl 0, Nat.le_refl 0⟩ (fun rr_ M_4 H locs hq hP hS => ?_)
        obtain ⟨rfl, hw⟩ := hq
        refine lv_aload_n hx hb dX9_loose_55 rfl (lv_at hl 0 rfl) ?_
        refine mw_get (ci := 9) (v := .ref (G.1 + (h + 1))) (C := RX9) (T := TX9) (N := 8) hx hb ht inX9 hown hSt hP kh (by decide) (mk9 kh) rfl 0 (by decide) (ht _ wf_RX9_10) rfl rfl dX9_loose_56 ?_
        refine mw_get (ci := 8) (v := .ref (G.1 + (h + 1 + 1))) (C := RX8) (T := TX8) (N := 4) hx hb ht inX8 hown hSt hP (ks9_0 kh) (by decide) (mk8 (ks9_0 kh)) rfl 0 (by decide) (ht _ wf_RX9_63) rfl rfl dX9_loose_59 ?_
        refine lv_iconst (v := 1) hx hb dX9_loose_62 (by decide) ?_
        refine mw_V (As := [.int 1]) (rest := []) (T := TX1) (N := 9) (n := 1) ⟨hx, hb, hml, hown, hts⟩ (so_X1_passHours l G (h + 1 + 1) 1 M_4 _ hw) wm_RX9_189 wi_yX1_passHours wv_yX1_passHours wn_RX1 wc_yX1_passHours (by decide) ⟨Nat.le_of_ble_eq_true rfl, Nat.le_of_ble_eq_true rfl⟩ ⟨rfl, rfl⟩ (ks8_0 (ks9_0 kh)) (by decide) (mk1 (ks8_0 (ks9_0 kh))) rfl hSt hTb hP hS rfl hl.1 rfl (Nat.le_of_ble_eq_true rfl) dX9_loose_63 ⟨Nat.le_refl 0, Nat.le_refl 0⟩ (fun rr_ M_5 H locs hq hP hS => ?_)
        obtain ⟨rfl, hw⟩ := hq
        obtain ⟨x_6, ex_6⟩ : ∃ z : Int32, z = v2 + 1 := ⟨_, rfl⟩
        have hw := hw x_6 ex_6
        refine lv_iinc (v := x_6) (lv' := [(2, .int x_6), (0, .ref (G.1 + h)), (1, .int v1)]) hx hb dX9_loose_66 hl (k := 2) rfl (by rw [ex_6]; rfl) (by decide) rfl (fun ls hl => ?_)
        refine lv_goto (tgt := 43) hx hb dX9_loose_69 (by decide) ?_
        exact ih43 x_6 M_5 _ _ _ hw hP hS (lv_sub hl [1, 2, 0] rfl)
  have J_11 : ∀  (M : Mem) (H : Heap) (locs : List Loc) (ls : Array Slot), b_X9_loose_11 h Q M → va_P G.2.1 clsA (wl G M) H → va_S (inW G) s.heap H locs → lv_has ls 3 [(0, .ref (G.1 + h))] → W p l e ({ frames := 6, cells := 0, slots := 0, locals := 167 } : Room) s m ([.ref (G.1 + h), .int a1] : List Value).toArray below meth c H locs 0 0 (MQ below (Pq G (Qi Q)) ([.ref (G.1 + h), .int a1] : List Value).toArray s 0 0 (inW G)) (F0 m 11 ls []) := by
    intro  M H locs ls  hw hP hS hl
    unfold b_X9_loose_11 at hw
    refine lv_aload_n hx hb dX9_loose_11 rfl (lv_at hl 0 rfl) ?_
    refine lv_iconst (v := 1) hx hb dX9_loose_12 (by decide) ?_
    refine mw_V (As := [.int 1]) (rest := []) (T := TX9) (N := 8) (n := 1) ⟨hx, hb, hml, hown, hts⟩ (so_X9_refuse l G h 1 M _ hw) wm_RX9_59 wi_yX9_refuse wv_yX9_refuse wn_RX9 wc_yX9_refuse (by decide) ⟨Nat.le_of_ble_eq_true rfl, Nat.le_of_ble_eq_true rfl⟩ ⟨rfl, rfl⟩ kh (by decide) (mk9 kh) rfl hSt hTb hP hS rfl hl.1 rfl (Nat.le_of_ble_eq_true rfl) dX9_loose_13 ⟨Nat.le_refl 0, Nat.le_refl 0⟩ (fun rr_ M_7 H locs hq hP hS => ?_)
    obtain ⟨r_8, rfl, hw⟩ := hq
    exact W.iret hx hb hr (mw_end hP hSt hTb hS ⟨_, rfl, hw⟩) hS.2.2 dX9_loose_16
  refine lv_iload_n hx hb dX9_loose_0 rfl (lv_at hl 1 rfl) ?_
  refine lv_iconst (v := 1) hx hb dX9_loose_1 (by decide) ?_
  refine lv_icmp_lt (tgt := 11) hx hb dX9_loose_2 (by decide) (fun c_9 => ?_) (fun c_9 => ?_)
  · have hw := hw.1 c_9
    exact J_11 M _ _ _ hw hP hS (lv_sub hl [0] rfl)
  · have hw := hw.2 c_9
    refine lv_iload_n hx hb dX9_loose_5 rfl (lv_at hl 1 rfl) ?_
    refine lv_bipush (v := 40) hx hb dX9_loose_6 (by decide) ?_
    refine lv_icmp_le (tgt := 17) hx hb dX9_loose_8 (by decide) (fun c_10 => ?_) (fun c_10 => ?_)
    · have hw := hw.1 c_10
      refine lv_aload_n hx hb dX9_loose_17 rfl (lv_at hl 0 rfl) ?_
      refine mw_get (ci := 9) (v := .ref (G.1 + (h + 1))) (C := RX9) (T := TX9) (N := 8) hx hb ht inX9 hown hSt hP kh (by decide) (mk9 kh) rfl 0 (by decide) (ht _ wf_RX9_10) rfl rfl dX9_loose_18 ?_
      refine mw_get (ci := 8) (v := .ref (G.1 + (h + 1 + 1))) (C := RX8) (T := TX8) (N := 4) hx hb ht inX8 hown hSt hP (ks9_0 kh) (by decide) (mk8 (ks9_0 kh)) rfl 0 (by decide) (ht _ wf_RX9_63) rfl rfl dX9_loose_21 ?_
      refine mw_get (ci := 1) (v := .int (M (h + 1 + 1) 8)) (C := RX1) (T := TX1) (N := 9) hx hb ht inX1 hown hSt hP (ks8_0 (ks9_0 kh)) (by decide) (mk1 (ks8_0 (ks9_0 kh))) rfl 8 (by decide) (ht _ wf_RX9_134) rfl rfl dX9_loose_24 ?_
      refine lv_iload_n hx hb dX9_loose_27 rfl (lv_at hl 1 rfl) ?_
      refine lv_iadd hx hb dX9_loose_28 ?_
      refine lv_sipush (v := 9999) hx hb dX9_loose_29 (by decide) ?_
      refine lv_icmp_le (tgt := 41) hx hb dX9_loose_32 (by decide) (fun c_11 => ?_) (fun c_11 => ?_)
      · have hw := hw.1 c_11
        refine lv_iconst (v := 0) hx hb dX9_loose_41 (by decide) ?_
        refine lv_istore_n (lv' := [(2, .int 0), (0, .ref (G.1 + h)), (1, .int a1)]) hx hb dX9_loose_42 rfl hl (by decide) rfl (fun ls hl => ?_)
        obtain ⟨n_, hw⟩ := hw
        exact L_43 a1 n_ 0 M _ _ _ hw hP hS (lv_sub hl [1, 2, 0] rfl)
      · have hw := hw.2 c_11
        refine lv_aload_n hx hb dX9_loose_35 rfl (lv_at hl 0 rfl) ?_
        refine lv_iconst (v := 3) hx hb dX9_loose_36 (by decide) ?_
        refine mw_V (As := [.int 3]) (rest := []) (T := TX9) (N := 8) (n := 1) ⟨hx, hb, hml, hown, hts⟩ (so_X9_refuse l G h 3 M _ hw) wm_RX9_59 wi_yX9_refuse wv_yX9_refuse wn_RX9 wc_yX9_refuse (by decide) ⟨Nat.le_of_ble_eq_true rfl, Nat.le_of_ble_eq_true rfl⟩ ⟨rfl, rfl⟩ kh (by decide) (mk9 kh) rfl hSt hTb hP hS rfl hl.1 rfl (Nat.le_of_ble_eq_true rfl) dX9_loose_37 ⟨Nat.le_refl 0, Nat.le_refl 0⟩ (fun rr_ M_12 H locs hq hP hS => ?_)
        obtain ⟨r_13, rfl, hw⟩ := hq
        exact W.iret hx hb hr (mw_end hP hSt hTb hS ⟨_, rfl, hw⟩) hS.2.2 dX9_loose_40
    · have hw := hw.2 c_10
      exact J_11 M _ _ _ hw hP hS (lv_sub hl [0] rfl)
def wp_X9_thinkFromNow (h : Nat) (M : Mem) (Q : Mem → Prop) : Prop :=
  kdT h = 9 ∧ (wp_X1_copyFrom (h + 69) (h + 1 + 1) M (fun M_1 => Q M_1))
set_option maxHeartbeats 4000000 in
set_option maxRecDepth 100000 in
theorem so_X9_thinkFromNow (l : Launch) (G : Gm) (h : Nat) (M : Mem) (Q : Mem → Prop) (hw : wp_X9_thinkFromNow h M Q) : Ct l G yX9_thinkFromNow cX9_thinkFromNow 1 none ({ frames := 3, cells := 0, slots := 0, locals := 103 } : Room) [.ref (G.1 + h)] M (Qv Q) := by
  unfold wp_X9_thinkFromNow at hw
  obtain ⟨kh, hw⟩ := hw
  refine ct_of (by decide) (Nat.le_of_ble_eq_true rfl) ?_
  intro p e s m below meth c E_ ls H hl hP hS
  obtain ⟨hx, hb, hml, hown, hts, ht, hr, hlocks, hSt, hTb⟩ := E_
  have hl : lv_has ls 1 [(0, .ref (G.1 + h))] := hl
  refine lv_aload_n hx hb dX9_thinkFromNow_0 rfl (lv_at hl 0 rfl) ?_
  refine mw_get (ci := 9) (v := .ref (G.1 + (h + 69))) (C := RX9) (T := TX9) (N := 8) hx hb ht inX9 hown hSt hP kh (by decide) (mk9 kh) rfl 2 (by decide) (ht _ wf_RX9_22) rfl rfl dX9_thinkFromNow_1 ?_
  refine lv_aload_n hx hb dX9_thinkFromNow_4 rfl (lv_at hl 0 rfl) ?_
  refine mw_get (ci := 9) (v := .ref (G.1 + (h + 1))) (C := RX9) (T := TX9) (N := 8) hx hb ht inX9 hown hSt hP kh (by decide) (mk9 kh) rfl 0 (by decide) (ht _ wf_RX9_10) rfl rfl dX9_thinkFromNow_5 ?_
  refine mw_get (ci := 8) (v := .ref (G.1 + (h + 1 + 1))) (C := RX8) (T := TX8) (N := 4) hx hb ht inX8 hown hSt hP (ks9_0 kh) (by decide) (mk8 (ks9_0 kh)) rfl 0 (by decide) (ht _ wf_RX9_63) rfl rfl dX9_thinkFromNow_8 ?_
  refine mw_V (As := [.ref (G.1 + (h + 1 + 1))]) (rest := []) (T := TX1) (N := 9) (n := 1) ⟨hx, hb, hml, hown, hts⟩ (so_X1_copyFrom l G (h + 69) (h + 1 + 1) M _ hw) wm_RX9_301 wi_yX1_copyFrom wv_yX1_copyFrom wn_RX1 wc_yX1_copyFrom (by decide) ⟨Nat.le_of_ble_eq_true rfl, Nat.le_of_ble_eq_true rfl⟩ ⟨rfl, rfl⟩ (ks9_2 kh) (by decide) (mk1 (ks9_2 kh)) rfl hSt hTb hP hS rfl hl.1 rfl (Nat.le_of_ble_eq_true rfl) dX9_thinkFromNow_11 ⟨Nat.le_refl 0, Nat.le_refl 0⟩ (fun rr_ M_1 H locs hq hP hS => ?_)
  obtain ⟨rfl, hw⟩ := hq
  exact W.vret hx hb hr (mw_end hP hSt hTb hS ⟨rfl, hw⟩) hS.2.2 dX9_thinkFromNow_14
def b_X9_then_25 (h : Nat) (Q : Int32 → Mem → Prop) (M : Mem) : Prop :=
  wp_X9_refuse h 1 M (fun r_2 M_1 => Q r_2 M_1)
def wp_X9_then (h : Nat) (a1 : Int32) (a2 : Int32) (a3 : Int32) (M : Mem) (Q : Int32 → Mem → Prop) : Prop :=
  kdT h = 9 ∧ (wp_X9_isWithin a1 60 M (fun r_4 M_3 => (r_4 = 0 → b_X9_then_25 h Q M_3) ∧ (¬ r_4 = 0 → wp_X9_isSheep h a2 M_3 (fun r_7 M_6 => (r_7 = 0 → b_X9_then_25 h Q M_6) ∧ (¬ r_7 = 0 → wp_X9_isWithin a3 2 M_6 (fun r_10 M_9 => (¬ r_10 = 0 → wp_X9_thinkFromNow h M_9 (fun M_12 => wp_X1_passHours (h + 69) a1 M_12 (fun M_13 => vp_in a2 7 ∧ (∀ q_15, q_15 = h + 69 + 13 + 9 + a2.toNatClampNeg → (a3 = 0 → Q (M_13 q_15 3) M_13) ∧ (a3 = 1 → ((M_13 q_15 5) = 0 → Q 0 M_13) ∧ (¬ (M_13 q_15 5) = 0 → Q 1 M_13)) ∧ (¬ a3 = 0 → ¬ a3 = 1 → wp_X1_snowAt (h + 69) (M_13 q_15 2) M_13 (fun r_20 M_19 => Q r_20 M_19)))))) ∧ (r_10 = 0 → b_X9_then_25 h Q M_9)))))))
set_option maxHeartbeats 4000000 in
set_option maxRecDepth 100000 in
theorem so_X9_then (l : Launch) (G : Gm) (h : Nat) (a1 : Int32) (a2 : Int32) (a3 : Int32) (M : Mem) (Q : Int32 → Mem → Prop) (hw : wp_X9_then h a1 a2 a3 M Q) : Ct l G yX9_then cX9_then 5 (some .int) ({ frames := 6, cells := 0, slots := 0, locals := 167 } : Room) [.ref (G.1 + h), .int a1, .int a2, .int a3] M (Qi Q) := by
  unfold wp_X9_then at hw
  obtain ⟨kh, hw⟩ := hw
  refine ct_of (by decide) (Nat.le_of_ble_eq_true rfl) ?_
  intro p e s m below meth c E_ ls H hl hP hS
  obtain ⟨hx, hb, hml, hown, hts, ht, hr, hlocks, hSt, hTb⟩ := E_
  have hl : lv_has ls 5 [(0, .ref (G.1 + h)), (1, .int a1), (2, .int a2), (3, .int a3)] := hl
  have J_25 : ∀  (M : Mem) (H : Heap) (locs : List Loc) (ls : Array Slot), b_X9_then_25 h Q M → va_P G.2.1 clsA (wl G M) H → va_S (inW G) s.heap H locs → lv_has ls 5 [(0, .ref (G.1 + h))] → W p l e ({ frames := 6, cells := 0, slots := 0, locals := 167 } : Room) s m ([.ref (G.1 + h), .int a1, .int a2, .int a3] : List Value).toArray below meth c H locs 0 0 (MQ below (Pq G (Qi Q)) ([.ref (G.1 + h), .int a1, .int a2, .int a3] : List Value).toArray s 0 0 (inW G)) (F0 m 25 ls []) := by
    intro  M H locs ls  hw hP hS hl
    unfold b_X9_then_25 at hw
    refine lv_aload_n hx hb dX9_then_25 rfl (lv_at hl 0 rfl) ?_
    refine lv_iconst (v := 1) hx hb dX9_then_26 (by decide) ?_
    refine mw_V (As := [.int 1]) (rest := []) (T := TX9) (N := 8) (n := 1) ⟨hx, hb, hml, hown, hts⟩ (so_X9_refuse l G h 1 M _ hw) wm_RX9_59 wi_yX9_refuse wv_yX9_refuse wn_RX9 wc_yX9_refuse (by decide) ⟨Nat.le_of_ble_eq_true rfl, Nat.le_of_ble_eq_true rfl⟩ ⟨rfl, rfl⟩ kh (by decide) (mk9 kh) rfl hSt hTb hP hS rfl hl.1 rfl (Nat.le_of_ble_eq_true rfl) dX9_then_27 ⟨Nat.le_refl 0, Nat.le_refl 0⟩ (fun rr_ M_1 H locs hq hP hS => ?_)
    obtain ⟨r_2, rfl, hw⟩ := hq
    exact W.iret hx hb hr (mw_end hP hSt hTb hS ⟨_, rfl, hw⟩) hS.2.2 dX9_then_30
  refine lv_iload_n hx hb dX9_then_0 rfl (lv_at hl 1 rfl) ?_
  refine lv_bipush (v := 60) hx hb dX9_then_1 (by decide) ?_
  refine mw_Sx (As := [.int a1, .int 60]) (rest := []) (n := 2) ⟨hx, hb, hml, hown, hts⟩ (so_X9_isWithin l G a1 60 M _ hw) wm_RX9_55 wt_yX9_isWithin wn_RX9 wc_yX9_isWithin (by decide) ⟨Nat.le_of_ble_eq_true rfl, Nat.le_of_ble_eq_true rfl⟩ ⟨rfl, rfl⟩ hSt hTb hP hS rfl hl.1 rfl (Nat.le_of_ble_eq_true rfl) dX9_then_3 ⟨Nat.le_refl 0, Nat.le_refl 0⟩ (fun rr_ M_3 H locs hq hP hS => ?_)
  obtain ⟨r_4, rfl, hw⟩ := hq
  refine lv_if_eq (tgt := 25) hx hb dX9_then_6 (by decide) (fun c_5 => ?_) (fun c_5 => ?_)
  · have hw := hw.1 c_5
    exact J_25 M_3 _ _ _ hw hP hS (lv_sub hl [0] rfl)
  · have hw := hw.2 c_5
    refine lv_aload_n hx hb dX9_then_9 rfl (lv_at hl 0 rfl) ?_
    refine lv_iload_n hx hb dX9_then_10 rfl (lv_at hl 2 rfl) ?_
    refine mw_V (As := [.int a2]) (rest := []) (T := TX9) (N := 8) (n := 1) ⟨hx, hb, hml, hown, hts⟩ (so_X9_isSheep l G h a2 M_3 _ hw) wm_RX9_131 wi_yX9_isSheep wv_yX9_isSheep wn_RX9 wc_yX9_isSheep (by decide) ⟨Nat.le_of_ble_eq_true rfl, Nat.le_of_ble_eq_true rfl⟩ ⟨rfl, rfl⟩ kh (by decide) (mk9 kh) rfl hSt hTb hP hS rfl hl.1 rfl (Nat.le_of_ble_eq_true rfl) dX9_then_11 ⟨Nat.le_refl 0, Nat.le_refl 0⟩ (fun rr_ M_6 H locs hq hP hS => ?_)
    obtain ⟨r_7, rfl, hw⟩ := hq
    refine lv_if_eq (tgt := 25) hx hb dX9_then_14 (by decide) (fun c_8 => ?_) (fun c_8 => ?_)
    · have hw := hw.1 c_8
      exact J_25 M_6 _ _ _ hw hP hS (lv_sub hl [0] rfl)
    · have hw := hw.2 c_8
      refine lv_iload_n hx hb dX9_then_17 rfl (lv_at hl 3 rfl) ?_
      refine lv_iconst (v := 2) hx hb dX9_then_18 (by decide) ?_
      refine mw_Sx (As := [.int a3, .int 2]) (rest := []) (n := 2) ⟨hx, hb, hml, hown, hts⟩ (so_X9_isWithin l G a3 2 M_6 _ hw) wm_RX9_55 wt_yX9_isWithin wn_RX9 wc_yX9_isWithin (by decide) ⟨Nat.le_of_ble_eq_true rfl, Nat.le_of_ble_eq_true rfl⟩ ⟨rfl, rfl⟩ hSt hTb hP hS rfl hl.1 rfl (Nat.le_of_ble_eq_true rfl) dX9_then_19 ⟨Nat.le_refl 0, Nat.le_refl 0⟩ (fun rr_ M_9 H locs hq hP hS => ?_)
      obtain ⟨r_10, rfl, hw⟩ := hq
      refine lv_if_ne (tgt := 31) hx hb dX9_then_22 (by decide) (fun c_11 => ?_) (fun c_11 => ?_)
      · have hw := hw.1 c_11
        refine lv_aload_n hx hb dX9_then_31 rfl (lv_at hl 0 rfl) ?_
        refine mw_V (As := []) (rest := []) (T := TX9) (N := 8) (n := 0) ⟨hx, hb, hml, hown, hts⟩ (so_X9_thinkFromNow l G h M_9 _ hw) wm_RX9_200 wi_yX9_thinkFromNow wv_yX9_thinkFromNow wn_RX9 wc_yX9_thinkFromNow (by decide) ⟨Nat.le_of_ble_eq_true rfl, Nat.le_of_ble_eq_true rfl⟩ ⟨rfl, rfl⟩ kh (by decide) (mk9 kh) rfl hSt hTb hP hS rfl hl.1 rfl (Nat.le_of_ble_eq_true rfl) dX9_then_32 ⟨Nat.le_refl 0, Nat.le_refl 0⟩ (fun rr_ M_12 H locs hq hP hS => ?_)
        obtain ⟨rfl, hw⟩ := hq
        refine lv_aload_n hx hb dX9_then_35 rfl (lv_at hl 0 rfl) ?_
        refine mw_get (ci := 9) (v := .ref (G.1 + (h + 69))) (C := RX9) (T := TX9) (N := 8) hx hb ht inX9 hown hSt hP kh (by decide) (mk9 kh) rfl 2 (by decide) (ht _ wf_RX9_22) rfl rfl dX9_then_36 ?_
        refine lv_iload_n hx hb dX9_then_39 rfl (lv_at hl 1 rfl) ?_
        refine mw_V (As := [.int a1]) (rest := []) (T := TX1) (N := 9) (n := 1) ⟨hx, hb, hml, hown, hts⟩ (so_X1_passHours l G (h + 69) a1 M_12 _ hw) wm_RX9_189 wi_yX1_passHours wv_yX1_passHours wn_RX1 wc_yX1_passHours (by decide) ⟨Nat.le_of_ble_eq_true rfl, Nat.le_of_ble_eq_true rfl⟩ ⟨rfl, rfl⟩ (ks9_2 kh) (by decide) (mk1 (ks9_2 kh)) rfl hSt hTb hP hS rfl hl.1 rfl (Nat.le_of_ble_eq_true rfl) dX9_then_40 ⟨Nat.le_refl 0, Nat.le_refl 0⟩ (fun rr_ M_13 H locs hq hP hS => ?_)
        obtain ⟨rfl, hw⟩ := hq
        refine lv_aload_n hx hb dX9_then_43 rfl (lv_at hl 0 rfl) ?_
        refine mw_get (ci := 9) (v := .ref (G.1 + (h + 69))) (C := RX9) (T := TX9) (N := 8) hx hb ht inX9 hown hSt hP kh (by decide) (mk9 kh) rfl 2 (by decide) (ht _ wf_RX9_22) rfl rfl dX9_then_44 ?_
        refine mw_get (ci := 1) (v := .ref (G.1 + (h + 69 + 13))) (C := RX1) (T := TX1) (N := 9) hx hb ht inX1 hown hSt hP (ks9_2 kh) (by decide) (mk1 (ks9_2 kh)) rfl 4 (by decide) (ht _ wf_RX9_106) rfl rfl dX9_then_47 ?_
        refine lv_iload_n hx hb dX9_then_50 rfl (lv_at hl 2 rfl) ?_
        obtain ⟨c_14, hw⟩ := hw
        refine mw_aald13 hx hb hSt hP (ks1_4 (ks9_2 kh)) (by rw [(ln1_4 (ks9_2 kh))]; exact c_14) dX9_then_51 ?_
        obtain ⟨q_15, eq_15⟩ : ∃ z, z = h + 69 + 13 + 9 + a2.toNatClampNeg := ⟨_, rfl⟩
        have hw := hw q_15 eq_15
        have kq_15 : kdT q_15 = 5 := by rw [eq_15]; exact (ke13 (ks1_4 (ks9_2 kh)) (vp_lt (by rw [(ln1_4 (ks9_2 kh))]; exact c_14)))
        rw [← eq_15]
        refine lv_astore (lv' := [(4, .ref (G.1 + q_15)), (0, .ref (G.1 + h)), (1, .int a1), (2, .int a2), (3, .int a3)]) hx hb dX9_then_52 hl (by decide) rfl (fun ls hl => ?_)
        refine lv_iload_n hx hb dX9_then_54 rfl (lv_at hl 4 rfl) ?_
        by_cases c_16 : a3 = 0
        · have hw := hw.1 c_16
          refine mw_lcase (tgt := 80) (off := 25) hx hb dX9_then_55 c_16 (by decide) (by decide) ?_
          refine lv_aload hx hb dX9_then_80 (lv_at hl 0 rfl) ?_
          refine mw_get (ci := 5) (v := .int (M_13 q_15 3)) (C := RX5) (T := TX5) (N := 6) hx hb ht inX5 hown hSt hP kq_15 (by decide) (mk5 kq_15) rfl 3 (by decide) (ht _ wf_RX9_121) rfl rfl dX9_then_82 ?_
          exact W.iret hx hb hr (mw_end hP hSt hTb hS ⟨_, rfl, hw⟩) hS.2.2 dX9_then_85
        by_cases c_17 : a3 = 1
        · have hw := hw.2.1 c_17
          refine mw_lcase (tgt := 86) (off := 31) hx hb dX9_then_55 c_17 (by decide) (by decide) ?_
          refine lv_aload hx hb dX9_then_86 (lv_at hl 0 rfl) ?_
          refine mw_get (ci := 5) (v := .int (M_13 q_15 5)) (C := RX5) (T := TX5) (N := 6) hx hb ht inX5 hown hSt hP kq_15 (by decide) (mk5 kq_15) rfl 5 (by decide) (ht _ wf_RX9_127) rfl rfl dX9_then_88 ?_
          refine lv_if_eq (tgt := 98) hx hb dX9_then_91 (by decide) (fun c_18 => ?_) (fun c_18 => ?_)
          · have hw := hw.1 c_18
            refine lv_iconst (v := 0) hx hb dX9_then_98 (by decide) ?_
            exact W.iret hx hb hr (mw_end hP hSt hTb hS ⟨_, rfl, hw⟩) hS.2.2 dX9_then_99
          · have hw := hw.2 c_18
            refine lv_iconst (v := 1) hx hb dX9_then_94 (by decide) ?_
            refine lv_goto (tgt := 99) hx hb dX9_then_95 (by decide) ?_
            exact W.iret hx hb hr (mw_end hP hSt hTb hS ⟨_, rfl, hw⟩) hS.2.2 dX9_then_99
        have hw := hw.2.2 c_16 c_17
        refine mw_ldef (keys := [0, 1]) (tgt := 100) hx hb dX9_then_55 (List.forall_mem_cons.mpr ⟨c_16, (List.forall_mem_cons.mpr ⟨c_17, (fun _ h_ => absurd h_ List.not_mem_nil)⟩)⟩) (by decide) (by decide) (by decide) ?_
        refine lv_aload_n hx hb dX9_then_100 rfl (lv_at hl 1 rfl) ?_
        refine mw_get (ci := 9) (v := .ref (G.1 + (h + 69))) (C := RX9) (T := TX9) (N := 8) hx hb ht inX9 hown hSt hP kh (by decide) (mk9 kh) rfl 2 (by decide) (ht _ wf_RX9_22) rfl rfl dX9_then_101 ?_
        refine lv_aload hx hb dX9_then_104 (lv_at hl 0 rfl) ?_
        refine mw_get (ci := 5) (v := .int (M_13 q_15 2)) (C := RX5) (T := TX5) (N := 6) hx hb ht inX5 hown hSt hP kq_15 (by decide) (mk5 kq_15) rfl 2 (by decide) (ht _ wf_RX9_118) rfl rfl dX9_then_106 ?_
        refine mw_V (As := [.int (M_13 q_15 2)]) (rest := []) (T := TX1) (N := 9) (n := 1) ⟨hx, hb, hml, hown, hts⟩ (so_X1_snowAt l G (h + 69) (M_13 q_15 2) M_13 _ hw) wm_RX9_203 wi_yX1_snowAt wv_yX1_snowAt wn_RX1 wc_yX1_snowAt (by decide) ⟨Nat.le_of_ble_eq_true rfl, Nat.le_of_ble_eq_true rfl⟩ ⟨rfl, rfl⟩ (ks9_2 kh) (by decide) (mk1 (ks9_2 kh)) rfl hSt hTb hP hS rfl hl.1 rfl (Nat.le_of_ble_eq_true rfl) dX9_then_109 ⟨Nat.le_refl 0, Nat.le_refl 0⟩ (fun rr_ M_19 H locs hq hP hS => ?_)
        obtain ⟨r_20, rfl, hw⟩ := hq
        exact W.iret hx hb hr (mw_end hP hSt hTb hS ⟨_, rfl, hw⟩) hS.2.2 dX9_then_112
      · have hw := hw.2 c_11
        exact J_25 M_9 _ _ _ hw hP hS (lv_sub hl [0] rfl)
def wp_X9_when (h : Nat) (a1 : Int32) (M : Mem) (Q : Int32 → Mem → Prop) : Prop :=
  kdT h = 9 ∧ (wp_X9_isSheep h a1 M (fun r_2 M_1 => (¬ r_2 = 0 → wp_X9_thinkFromNow h M_1 (fun M_4 => wp_X1_passHoursFor (h + 69) a1 60 M_4 (fun r_6 M_5 => vp_in a1 7 ∧ (((M_5 (h + 69 + 13 + 9 + a1.toNatClampNeg) 5) = 0 → wp_X9_refuse h 2 M_5 (fun r_10 M_9 => Q r_10 M_9)) ∧ (¬ (M_5 (h + 69 + 13 + 9 + a1.toNatClampNeg) 5) = 0 → Q r_6 M_5))))) ∧ (r_2 = 0 → wp_X9_refuse h 1 M_1 (fun r_12 M_11 => Q r_12 M_11))))
set_option maxHeartbeats 4000000 in
set_option maxRecDepth 100000 in
theorem so_X9_when (l : Launch) (G : Gm) (h : Nat) (a1 : Int32) (M : Mem) (Q : Int32 → Mem → Prop) (hw : wp_X9_when h a1 M Q) : Ct l G yX9_when cX9_when 3 (some .int) ({ frames := 6, cells := 0, slots := 0, locals := 168 } : Room) [.ref (G.1 + h), .int a1] M (Qi Q) := by
  unfold wp_X9_when at hw
  obtain ⟨kh, hw⟩ := hw
  refine ct_of (by decide) (Nat.le_of_ble_eq_true rfl) ?_
  intro p e s m below meth c E_ ls H hl hP hS
  obtain ⟨hx, hb, hml, hown, hts, ht, hr, hlocks, hSt, hTb⟩ := E_
  have hl : lv_has ls 3 [(0, .ref (G.1 + h)), (1, .int a1)] := hl
  refine lv_aload_n hx hb dX9_when_0 rfl (lv_at hl 0 rfl) ?_
  refine lv_iload_n hx hb dX9_when_1 rfl (lv_at hl 1 rfl) ?_
  refine mw_V (As := [.int a1]) (rest := []) (T := TX9) (N := 8) (n := 1) ⟨hx, hb, hml, hown, hts⟩ (so_X9_isSheep l G h a1 M _ hw) wm_RX9_131 wi_yX9_isSheep wv_yX9_isSheep wn_RX9 wc_yX9_isSheep (by decide) ⟨Nat.le_of_ble_eq_true rfl, Nat.le_of_ble_eq_true rfl⟩ ⟨rfl, rfl⟩ kh (by decide) (mk9 kh) rfl hSt hTb hP hS rfl hl.1 rfl (Nat.le_of_ble_eq_true rfl) dX9_when_2 ⟨Nat.le_refl 0, Nat.le_refl 0⟩ (fun rr_ M_1 H locs hq hP hS => ?_)
  obtain ⟨r_2, rfl, hw⟩ := hq
  refine lv_if_ne (tgt := 14) hx hb dX9_when_5 (by decide) (fun c_3 => ?_) (fun c_3 => ?_)
  · have hw := hw.1 c_3
    refine lv_aload_n hx hb dX9_when_14 rfl (lv_at hl 0 rfl) ?_
    refine mw_V (As := []) (rest := []) (T := TX9) (N := 8) (n := 0) ⟨hx, hb, hml, hown, hts⟩ (so_X9_thinkFromNow l G h M_1 _ hw) wm_RX9_200 wi_yX9_thinkFromNow wv_yX9_thinkFromNow wn_RX9 wc_yX9_thinkFromNow (by decide) ⟨Nat.le_of_ble_eq_true rfl, Nat.le_of_ble_eq_true rfl⟩ ⟨rfl, rfl⟩ kh (by decide) (mk9 kh) rfl hSt hTb hP hS rfl hl.1 rfl (Nat.le_of_ble_eq_true rfl) dX9_when_15 ⟨Nat.le_refl 0, Nat.le_refl 0⟩ (fun rr_ M_4 H locs hq hP hS => ?_)
    obtain ⟨rfl, hw⟩ := hq
    refine lv_aload_n hx hb dX9_when_18 rfl (lv_at hl 0 rfl) ?_
    refine mw_get (ci := 9) (v := .ref (G.1 + (h + 69))) (C := RX9) (T := TX9) (N := 8) hx hb ht inX9 hown hSt hP kh (by decide) (mk9 kh) rfl 2 (by decide) (ht _ wf_RX9_22) rfl rfl dX9_when_19 ?_
    refine lv_iload_n hx hb dX9_when_22 rfl (lv_at hl 1 rfl) ?_
    refine lv_bipush (v := 60) hx hb dX9_when_23 (by decide) ?_
    refine mw_V (As := [.int a1, .int 60]) (rest := []) (T := TX1) (N := 9) (n := 2) ⟨hx, hb, hml, hown, hts⟩ (so_X1_passHoursFor l G (h + 69) a1 60 M_4 _ hw) wm_RX9_206 wi_yX1_passHoursFor wv_yX1_passHoursFor wn_RX1 wc_yX1_passHoursFor (by decide) ⟨Nat.le_of_ble_eq_true rfl, Nat.le_of_ble_eq_true rfl⟩ ⟨rfl, rfl⟩ (ks9_2 kh) (by decide) (mk1 (ks9_2 kh)) rfl hSt hTb hP hS rfl hl.1 rfl (Nat.le_of_ble_eq_true rfl) dX9_when_25 ⟨Nat.le_refl 0, Nat.le_refl 0⟩ (fun rr_ M_5 H locs hq hP hS => ?_)
    obtain ⟨r_6, rfl, hw⟩ := hq
    refine lv_istore_n (lv' := [(2, .int r_6), (0, .ref (G.1 + h)), (1, .int a1)]) hx hb dX9_when_28 rfl hl (by decide) rfl (fun ls hl => ?_)
    refine lv_aload_n hx hb dX9_when_29 rfl (lv_at hl 1 rfl) ?_
    refine mw_get (ci := 9) (v := .ref (G.1 + (h + 69))) (C := RX9) (T := TX9) (N := 8) hx hb ht inX9 hown hSt hP kh (by decide) (mk9 kh) rfl 2 (by decide) (ht _ wf_RX9_22) rfl rfl dX9_when_30 ?_
    refine mw_get (ci := 1) (v := .ref (G.1 + (h + 69 + 13))) (C := RX1) (T := TX1) (N := 9) hx hb ht inX1 hown hSt hP (ks9_2 kh) (by decide) (mk1 (ks9_2 kh)) rfl 4 (by decide) (ht _ wf_RX9_106) rfl rfl dX9_when_33 ?_
    refine lv_iload_n hx hb dX9_when_36 rfl (lv_at hl 2 rfl) ?_
    obtain ⟨c_7, hw⟩ := hw
    refine mw_aald13 hx hb hSt hP (ks1_4 (ks9_2 kh)) (by rw [(ln1_4 (ks9_2 kh))]; exact c_7) dX9_when_37 ?_
    refine mw_get (ci := 5) (v := .int (M_5 (h + 69 + 13 + 9 + a1.toNatClampNeg) 5)) (C := RX5) (T := TX5) (N := 6) hx hb ht inX5 hown hSt hP (ke13 (ks1_4 (ks9_2 kh)) (vp_lt (by rw [(ln1_4 (ks9_2 kh))]; exact c_7))) (by decide) (mk5 (ke13 (ks1_4 (ks9_2 kh)) (vp_lt (by rw [(ln1_4 (ks9_2 kh))]; exact c_7)))) rfl 5 (by decide) (ht _ wf_RX9_127) rfl rfl dX9_when_38 ?_
    refine lv_if_eq (tgt := 48) hx hb dX9_when_41 (by decide) (fun c_8 => ?_) (fun c_8 => ?_)
    · have hw := hw.1 c_8
      refine lv_aload_n hx hb dX9_when_48 rfl (lv_at hl 1 rfl) ?_
      refine lv_iconst (v := 2) hx hb dX9_when_49 (by decide) ?_
      refine mw_V (As := [.int 2]) (rest := []) (T := TX9) (N := 8) (n := 1) ⟨hx, hb, hml, hown, hts⟩ (so_X9_refuse l G h 2 M_5 _ hw) wm_RX9_59 wi_yX9_refuse wv_yX9_refuse wn_RX9 wc_yX9_refuse (by decide) ⟨Nat.le_of_ble_eq_true rfl, Nat.le_of_ble_eq_true rfl⟩ ⟨rfl, rfl⟩ kh (by decide) (mk9 kh) rfl hSt hTb hP hS rfl hl.1 rfl (Nat.le_of_ble_eq_true rfl) dX9_when_50 ⟨Nat.le_refl 0, Nat.le_refl 0⟩ (fun rr_ M_9 H locs hq hP hS => ?_)
      obtain ⟨r_10, rfl, hw⟩ := hq
      exact W.iret hx hb hr (mw_end hP hSt hTb hS ⟨_, rfl, hw⟩) hS.2.2 dX9_when_53
    · have hw := hw.2 c_8
      refine lv_iload_n hx hb dX9_when_44 rfl (lv_at hl 0 rfl) ?_
      refine lv_goto (tgt := 53) hx hb dX9_when_45 (by decide) ?_
      exact W.iret hx hb hr (mw_end hP hSt hTb hS ⟨_, rfl, hw⟩) hS.2.2 dX9_when_53
  · have hw := hw.2 c_3
    refine lv_aload_n hx hb dX9_when_8 rfl (lv_at hl 0 rfl) ?_
    refine lv_iconst (v := 1) hx hb dX9_when_9 (by decide) ?_
    refine mw_V (As := [.int 1]) (rest := []) (T := TX9) (N := 8) (n := 1) ⟨hx, hb, hml, hown, hts⟩ (so_X9_refuse l G h 1 M_1 _ hw) wm_RX9_59 wi_yX9_refuse wv_yX9_refuse wn_RX9 wc_yX9_refuse (by decide) ⟨Nat.le_of_ble_eq_true rfl, Nat.le_of_ble_eq_true rfl⟩ ⟨rfl, rfl⟩ kh (by decide) (mk9 kh) rfl hSt hTb hP hS rfl hl.1 rfl (Nat.le_of_ble_eq_true rfl) dX9_when_10 ⟨Nat.le_refl 0, Nat.le_refl 0⟩ (fun rr_ M_11 H locs hq hP hS => ?_)
    obtain ⟨r_12, rfl, hw⟩ := hq
    exact W.iret hx hb hr (mw_end hP hSt hTb hS ⟨_, rfl, hw⟩) hS.2.2 dX9_when_13
