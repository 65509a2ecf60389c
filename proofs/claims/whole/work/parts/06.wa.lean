def wp_X9_isWithin (a0 : Int32) (a1 : Int32) (M : Mem) (Q : Int32 → Mem → Prop) : Prop :=
  (a0 < 0 → Q 0 M) ∧ (¬ a0 < 0 → (a1 < a0 → Q 0 M) ∧ (¬ a1 < a0 → Q 1 M))
set_option maxHeartbeats 4000000 in
set_option maxRecDepth 100000 in
theorem so_X9_isWithin (l : Launch) (G : Gm) (a0 : Int32) (a1 : Int32) (M : Mem) (Q : Int32 → Mem → Prop) (hw : wp_X9_isWithin a0 a1 M Q) : Ct l G yX9_isWithin cX9_isWithin 2 (some .boolean) ({ frames := 0, cells := 0, slots := 0, locals := 0 } : Room) [.int a0, .int a1] M (Qi Q) := by
  unfold wp_X9_isWithin at hw
  refine ct_of (by decide) (Nat.le_of_ble_eq_true rfl) ?_
  intro p e s m below meth c E_ ls H hl hP hS
  obtain ⟨hx, hb, hml, hown, hts, ht, hr, hlocks, hSt, hTb⟩ := E_
  have hl : lv_has ls 2 [(0, .int a0), (1, .int a1)] := hl
  refine lv_iload_n hx hb dX9_isWithin_0 rfl (lv_at hl 0 rfl) ?_
  refine lv_if_lt (tgt := 13) hx hb dX9_isWithin_1 (by decide) (fun c_1 => ?_) (fun c_1 => ?_)
  · have hw := hw.1 c_1
    refine lv_iconst (v := 0) hx hb dX9_isWithin_13 (by decide) ?_
    exact W.zret (v := 0) hx hb hr (by decide) (mw_end hP hSt hTb hS ⟨_, rfl, hw⟩) hS.2.2 dX9_isWithin_14
  · have hw := hw.2 c_1
    refine lv_iload_n hx hb dX9_isWithin_4 rfl (lv_at hl 0 rfl) ?_
    refine lv_iload_n hx hb dX9_isWithin_5 rfl (lv_at hl 1 rfl) ?_
    refine lv_icmp_gt (tgt := 13) hx hb dX9_isWithin_6 (by decide) (fun c_2 => ?_) (fun c_2 => ?_)
    · have hw := hw.1 c_2
      refine lv_iconst (v := 0) hx hb dX9_isWithin_13 (by decide) ?_
      exact W.zret (v := 0) hx hb hr (by decide) (mw_end hP hSt hTb hS ⟨_, rfl, hw⟩) hS.2.2 dX9_isWithin_14
    · have hw := hw.2 c_2
      refine lv_iconst (v := 1) hx hb dX9_isWithin_9 (by decide) ?_
      refine lv_goto (tgt := 14) hx hb dX9_isWithin_10 (by decide) ?_
      exact W.zret (v := 1) hx hb hr (by decide) (mw_end hP hSt hTb hS ⟨_, rfl, hw⟩) hS.2.2 dX9_isWithin_14
def wp_X9_isCell (a0 : Int32) (M : Mem) (Q : Int32 → Mem → Prop) : Prop :=
  wp_X9_isWithin a0 9 M (fun r_2 M_1 => isb r_2 ∧ Q r_2 M_1)
set_option maxHeartbeats 4000000 in
set_option maxRecDepth 100000 in
theorem so_X9_isCell (l : Launch) (G : Gm) (a0 : Int32) (M : Mem) (Q : Int32 → Mem → Prop) (hw : wp_X9_isCell a0 M Q) : Ct l G yX9_isCell cX9_isCell 1 (some .boolean) ({ frames := 1, cells := 0, slots := 0, locals := 21 } : Room) [.int a0] M (Qi Q) := by
  unfold wp_X9_isCell at hw
  refine ct_of (by decide) (Nat.le_of_ble_eq_true rfl) ?_
  intro p e s m below meth c E_ ls H hl hP hS
  obtain ⟨hx, hb, hml, hown, hts, ht, hr, hlocks, hSt, hTb⟩ := E_
  have hl : lv_has ls 1 [(0, .int a0)] := hl
  refine lv_iload_n hx hb dX9_isCell_0 rfl (lv_at hl 0 rfl) ?_
  refine lv_bipush (v := 9) hx hb dX9_isCell_1 (by decide) ?_
  refine mw_Sx (As := [.int a0, .int 9]) (rest := []) (n := 2) ⟨hx, hb, hml, hown, hts⟩ (so_X9_isWithin l G a0 9 M _ hw) wm_RX9_55 wt_yX9_isWithin wn_RX9 wc_yX9_isWithin (by decide) ⟨Nat.le_of_ble_eq_true rfl, Nat.le_of_ble_eq_true rfl⟩ ⟨rfl, rfl⟩ hSt hTb hP hS rfl hl.1 rfl (Nat.le_of_ble_eq_true rfl) dX9_isCell_3 ⟨Nat.le_refl 0, Nat.le_refl 0⟩ (fun rr_ M_1 H locs hq hP hS => ?_)
  obtain ⟨r_2, rfl, hw⟩ := hq
  obtain ⟨c_3, hw⟩ := hw
  exact W.zret hx hb hr c_3.narrow (mw_end hP hSt hTb hS ⟨_, rfl, hw⟩) hS.2.2 dX9_isCell_6
def wp_X3_append (h : Nat) (a1 : Int32) (M : Mem) (Q : Int32 → Mem → Prop) : Prop :=
  kdT h = 3 ∧ (((M h 1) < (nI (lnT (h + 1))) → vp_in (M h 1) (lnT (h + 1)) ∧ ∀ M_3, M_3 = mu M (h + 1) (M h 1).toNatClampNeg a1 → ∀ M_4, M_4 = mu M_3 h 1 ((M_3 h 1) + 1) → Q 1 M_4) ∧ (¬ (M h 1) < (nI (lnT (h + 1))) → Q 0 M))
set_option maxHeartbeats 4000000 in
set_option maxRecDepth 100000 in
theorem so_X3_append (l : Launch) (G : Gm) (h : Nat) (a1 : Int32) (M : Mem) (Q : Int32 → Mem → Prop) (hw : wp_X3_append h a1 M Q) : Ct l G yX3_append cX3_append 2 (some .boolean) ({ frames := 0, cells := 0, slots := 0, locals := 0 } : Room) [.ref (G.1 + h), .int a1] M (Qi Q) := by
  unfold wp_X3_append at hw
  obtain ⟨kh, hw⟩ := hw
  refine ct_of (by decide) (Nat.le_of_ble_eq_true rfl) ?_
  intro p e s m below meth c E_ ls H hl hP hS
  obtain ⟨hx, hb, hml, hown, hts, ht, hr, hlocks, hSt, hTb⟩ := E_
  have hl : lv_has ls 2 [(0, .ref (G.1 + h)), (1, .int a1)] := hl
  refine lv_aload_n hx hb dX3_append_0 rfl (lv_at hl 0 rfl) ?_
  refine mw_get (ci := 3) (v := .int (M h 1)) (C := RX3) (T := TX3) (N := 2) hx hb ht inX3 hown hSt hP kh (by decide) (mk3 kh) rfl 1 (by decide) (ht _ wf_RX3_19) rfl rfl dX3_append_1 ?_
  refine lv_aload_n hx hb dX3_append_4 rfl (lv_at hl 0 rfl) ?_
  refine mw_get (ci := 3) (v := .ref (G.1 + (h + 1))) (C := RX3) (T := TX3) (N := 2) hx hb ht inX3 hown hSt hP kh (by decide) (mk3 kh) rfl 0 (by decide) (ht _ wf_RX3_13) rfl rfl dX3_append_5 ?_
  refine mw_alen hx hb hSt hP (ks3_0 kh) dX3_append_8 ?_
  refine lv_icmp_lt (tgt := 14) hx hb dX3_append_9 (by decide) (fun c_1 => ?_) (fun c_1 => ?_)
  · have hw := hw.1 c_1
    refine lv_aload_n hx hb dX3_append_14 rfl (lv_at hl 0 rfl) ?_
    refine mw_get (ci := 3) (v := .ref (G.1 + (h + 1))) (C := RX3) (T := TX3) (N := 2) hx hb ht inX3 hown hSt hP kh (by decide) (mk3 kh) rfl 0 (by decide) (ht _ wf_RX3_13) rfl rfl dX3_append_15 ?_
    refine lv_aload_n hx hb dX3_append_18 rfl (lv_at hl 0 rfl) ?_
    refine mw_get (ci := 3) (v := .int (M h 1)) (C := RX3) (T := TX3) (N := 2) hx hb ht inX3 hown hSt hP kh (by decide) (mk3 kh) rfl 1 (by decide) (ht _ wf_RX3_19) rfl rfl dX3_append_19 ?_
    refine lv_iload_n hx hb dX3_append_22 rfl (lv_at hl 1 rfl) ?_
    obtain ⟨c_2, hw⟩ := hw
    refine mw_iast hx hb hSt hP hS (ks3_0 kh) c_2 dX3_append_23 (fun M_3 H locs eM_3 hP hS => ?_)
    have hw := hw M_3 eM_3
    refine lv_aload_n hx hb dX3_append_24 rfl (lv_at hl 0 rfl) ?_
    refine lv_dup hx hb dX3_append_25 rfl ?_
    refine mw_get (ci := 3) (v := .int (M_3 h 1)) (C := RX3) (T := TX3) (N := 2) hx hb ht inX3 hown hSt hP kh (by decide) (mk3 kh) rfl 1 (by decide) (ht _ wf_RX3_19) rfl rfl dX3_append_26 ?_
    refine lv_iconst (v := 1) hx hb dX3_append_29 (by decide) ?_
    refine lv_iadd hx hb dX3_append_30 ?_
    refine mw_put (ci := 3) (v := (M_3 h 1) + 1) (ty := .int) (C := RX3) (T := TX3) (N := 2) hx hb ht inX3 tyX3 tyX3_ok nmX3 hown hSt hP hS kh (by decide) (mk3 kh) rfl 1 (by decide) (ht _ wf_RX3_19) rfl rfl (by decide +kernel) (vp_nar_int _) rfl (Nat.le_of_ble_eq_true rfl) (by rw [mk3 kh]; simp [mu]) dX3_append_31 (fun M_4 H locs eM_4 hP hS => ?_)
    have hw := hw M_4 eM_4
    refine lv_iconst (v := 1) hx hb dX3_append_34 (by decide) ?_
    exact W.zret (v := 1) hx hb hr (by decide) (mw_end hP hSt hTb hS ⟨_, rfl, hw⟩) hS.2.2 dX3_append_35
  · have hw := hw.2 c_1
    refine lv_iconst (v := 0) hx hb dX3_append_12 (by decide) ?_
    exact W.zret (v := 0) hx hb hr (by decide) (mw_end hP hSt hTb hS ⟨_, rfl, hw⟩) hS.2.2 dX3_append_13
def wp_X3_clear (h : Nat) (M : Mem) (Q : Mem → Prop) : Prop :=
  kdT h = 3 ∧ (∀ M_1, M_1 = mu M h 1 0 → Q M_1)
set_option maxHeartbeats 4000000 in
set_option maxRecDepth 100000 in
theorem so_X3_clear (l : Launch) (G : Gm) (h : Nat) (M : Mem) (Q : Mem → Prop) (hw : wp_X3_clear h M Q) : Ct l G yX3_clear cX3_clear 1 none ({ frames := 0, cells := 0, slots := 0, locals := 0 } : Room) [.ref (G.1 + h)] M (Qv Q) := by
  unfold wp_X3_clear at hw
  obtain ⟨kh, hw⟩ := hw
  refine ct_of (by decide) (Nat.le_of_ble_eq_true rfl) ?_
  intro p e s m below meth c E_ ls H hl hP hS
  obtain ⟨hx, hb, hml, hown, hts, ht, hr, hlocks, hSt, hTb⟩ := E_
  have hl : lv_has ls 1 [(0, .ref (G.1 + h))] := hl
  refine lv_aload_n hx hb dX3_clear_0 rfl (lv_at hl 0 rfl) ?_
  refine lv_iconst (v := 0) hx hb dX3_clear_1 (by decide) ?_
  refine mw_put (ci := 3) (v := 0) (ty := .int) (C := RX3) (T := TX3) (N := 2) hx hb ht inX3 tyX3 tyX3_ok nmX3 hown hSt hP hS kh (by decide) (mk3 kh) rfl 1 (by decide) (ht _ wf_RX3_19) rfl rfl (by decide +kernel) (vp_nar_int _) rfl (Nat.le_of_ble_eq_true rfl) (by rw [mk3 kh]; simp [mu]) dX3_clear_2 (fun M_1 H locs eM_1 hP hS => ?_)
  have hw := hw M_1 eM_1
  exact W.vret hx hb hr (mw_end hP hSt hTb hS ⟨rfl, hw⟩) hS.2.2 dX3_clear_5
def wp_X3_get (h : Nat) (a1 : Int32) (M : Mem) (Q : Int32 → Mem → Prop) : Prop :=
  kdT h = 3 ∧ ((a1 < 0 → Q 0 M) ∧ (¬ a1 < 0 → ((M h 1) ≤ a1 → Q 0 M) ∧ (¬ (M h 1) ≤ a1 → vp_in a1 (lnT (h + 1)) ∧ (Q (M (h + 1) a1.toNatClampNeg) M))))
set_option maxHeartbeats 4000000 in
set_option maxRecDepth 100000 in
theorem so_X3_get (l : Launch) (G : Gm) (h : Nat) (a1 : Int32) (M : Mem) (Q : Int32 → Mem → Prop) (hw : wp_X3_get h a1 M Q) : Ct l G yX3_get cX3_get 2 (some .int) ({ frames := 0, cells := 0, slots := 0, locals := 0 } : Room) [.ref (G.1 + h), .int a1] M (Qi Q) := by
  unfold wp_X3_get at hw
  obtain ⟨kh, hw⟩ := hw
  refine ct_of (by decide) (Nat.le_of_ble_eq_true rfl) ?_
  intro p e s m below meth c E_ ls H hl hP hS
  obtain ⟨hx, hb, hml, hown, hts, ht, hr, hlocks, hSt, hTb⟩ := E_
  have hl : lv_has ls 2 [(0, .ref (G.1 + h)), (1, .int a1)] := hl
  refine lv_iload_n hx hb dX3_get_0 rfl (lv_at hl 1 rfl) ?_
  refine lv_if_lt (tgt := 21) hx hb dX3_get_1 (by decide) (fun c_1 => ?_) (fun c_1 => ?_)
  · have hw := hw.1 c_1
    refine lv_iconst (v := 0) hx hb dX3_get_21 (by decide) ?_
    exact W.iret hx hb hr (mw_end hP hSt hTb hS ⟨_, rfl, hw⟩) hS.2.2 dX3_get_22
  · have hw := hw.2 c_1
    refine lv_iload_n hx hb dX3_get_4 rfl (lv_at hl 1 rfl) ?_
    refine lv_aload_n hx hb dX3_get_5 rfl (lv_at hl 0 rfl) ?_
    refine mw_get (ci := 3) (v := .int (M h 1)) (C := RX3) (T := TX3) (N := 2) hx hb ht inX3 hown hSt hP kh (by decide) (mk3 kh) rfl 1 (by decide) (ht _ wf_RX3_19) rfl rfl dX3_get_6 ?_
    refine lv_icmp_ge (tgt := 21) hx hb dX3_get_9 (by decide) (fun c_2 => ?_) (fun c_2 => ?_)
    · have hw := hw.1 c_2
      refine lv_iconst (v := 0) hx hb dX3_get_21 (by decide) ?_
      exact W.iret hx hb hr (mw_end hP hSt hTb hS ⟨_, rfl, hw⟩) hS.2.2 dX3_get_22
    · have hw := hw.2 c_2
      refine lv_aload_n hx hb dX3_get_12 rfl (lv_at hl 0 rfl) ?_
      refine mw_get (ci := 3) (v := .ref (G.1 + (h + 1))) (C := RX3) (T := TX3) (N := 2) hx hb ht inX3 hown hSt hP kh (by decide) (mk3 kh) rfl 0 (by decide) (ht _ wf_RX3_13) rfl rfl dX3_get_13 ?_
      refine lv_iload_n hx hb dX3_get_16 rfl (lv_at hl 1 rfl) ?_
      obtain ⟨c_3, hw⟩ := hw
      refine mw_iald hx hb hSt hP (ks3_0 kh) c_3 dX3_get_17 ?_
      refine lv_goto (tgt := 22) hx hb dX3_get_18 (by decide) ?_
      exact W.iret hx hb hr (mw_end hP hSt hTb hS ⟨_, rfl, hw⟩) hS.2.2 dX3_get_22
def wp_X3_takeLast (h : Nat) (M : Mem) (Q : Int32 → Mem → Prop) : Prop :=
  kdT h = 3 ∧ ((0 < (M h 1) → ∀ M_2, M_2 = mu M h 1 ((M h 1) - 1) → vp_in (M_2 h 1) (lnT (h + 1)) ∧ (Q (M_2 (h + 1) (M_2 h 1).toNatClampNeg) M_2)) ∧ (¬ 0 < (M h 1) → Q 0 M))
set_option maxHeartbeats 4000000 in
set_option maxRecDepth 100000 in
theorem so_X3_takeLast (l : Launch) (G : Gm) (h : Nat) (M : Mem) (Q : Int32 → Mem → Prop) (hw : wp_X3_takeLast h M Q) : Ct l G yX3_takeLast cX3_takeLast 1 (some .int) ({ frames := 0, cells := 0, slots := 0, locals := 0 } : Room) [.ref (G.1 + h)] M (Qi Q) := by
  unfold wp_X3_takeLast at hw
  obtain ⟨kh, hw⟩ := hw
  refine ct_of (by decide) (Nat.le_of_ble_eq_true rfl) ?_
  intro p e s m below meth c E_ ls H hl hP hS
  obtain ⟨hx, hb, hml, hown, hts, ht, hr, hlocks, hSt, hTb⟩ := E_
  have hl : lv_has ls 1 [(0, .ref (G.1 + h))] := hl
  refine lv_aload_n hx hb dX3_takeLast_0 rfl (lv_at hl 0 rfl) ?_
  refine mw_get (ci := 3) (v := .int (M h 1)) (C := RX3) (T := TX3) (N := 2) hx hb ht inX3 hown hSt hP kh (by decide) (mk3 kh) rfl 1 (by decide) (ht _ wf_RX3_19) rfl rfl dX3_takeLast_1 ?_
  refine lv_if_gt (tgt := 9) hx hb dX3_takeLast_4 (by decide) (fun c_1 => ?_) (fun c_1 => ?_)
  · have hw := hw.1 c_1
    refine lv_aload_n hx hb dX3_takeLast_9 rfl (lv_at hl 0 rfl) ?_
    refine lv_dup hx hb dX3_takeLast_10 rfl ?_
    refine mw_get (ci := 3) (v := .int (M h 1)) (C := RX3) (T := TX3) (N := 2) hx hb ht inX3 hown hSt hP kh (by decide) (mk3 kh) rfl 1 (by decide) (ht _ wf_RX3_19) rfl rfl dX3_takeLast_11 ?_
    refine lv_iconst (v := 1) hx hb dX3_takeLast_14 (by decide) ?_
    refine lv_isub hx hb dX3_takeLast_15 ?_
    refine mw_put (ci := 3) (v := (M h 1) - 1) (ty := .int) (C := RX3) (T := TX3) (N := 2) hx hb ht inX3 tyX3 tyX3_ok nmX3 hown hSt hP hS kh (by decide) (mk3 kh) rfl 1 (by decide) (ht _ wf_RX3_19) rfl rfl (by decide +kernel) (vp_nar_int _) rfl (Nat.le_of_ble_eq_true rfl) (by rw [mk3 kh]; simp [mu]) dX3_takeLast_16 (fun M_2 H locs eM_2 hP hS => ?_)
    have hw := hw M_2 eM_2
    refine lv_aload_n hx hb dX3_takeLast_19 rfl (lv_at hl 0 rfl) ?_
    refine mw_get (ci := 3) (v := .ref (G.1 + (h + 1))) (C := RX3) (T := TX3) (N := 2) hx hb ht inX3 hown hSt hP kh (by decide) (mk3 kh) rfl 0 (by decide) (ht _ wf_RX3_13) rfl rfl dX3_takeLast_20 ?_
    refine lv_aload_n hx hb dX3_takeLast_23 rfl (lv_at hl 0 rfl) ?_
    refine mw_get (ci := 3) (v := .int (M_2 h 1)) (C := RX3) (T := TX3) (N := 2) hx hb ht inX3 hown hSt hP kh (by decide) (mk3 kh) rfl 1 (by decide) (ht _ wf_RX3_19) rfl rfl dX3_takeLast_24 ?_
    obtain ⟨c_3, hw⟩ := hw
    refine mw_iald hx hb hSt hP (ks3_0 kh) c_3 dX3_takeLast_27 ?_
    exact W.iret hx hb hr (mw_end hP hSt hTb hS ⟨_, rfl, hw⟩) hS.2.2 dX3_takeLast_28
  · have hw := hw.2 c_1
    refine lv_iconst (v := 0) hx hb dX3_takeLast_7 (by decide) ?_
    exact W.iret hx hb hr (mw_end hP hSt hTb hS ⟨_, rfl, hw⟩) hS.2.2 dX3_takeLast_8
def wp_X5_isSought (h : Nat) (M : Mem) (Q : Int32 → Mem → Prop) : Prop :=
  kdT h = 5 ∧ ((¬ (M h 5) = 0 → Q 0 M) ∧ ((M h 5) = 0 → ((M h 3) ≤ 0 → Q 0 M) ∧ (¬ (M h 3) ≤ 0 → Q 1 M)))
set_option maxHeartbeats 4000000 in
set_option maxRecDepth 100000 in
theorem so_X5_isSought (l : Launch) (G : Gm) (h : Nat) (M : Mem) (Q : Int32 → Mem → Prop) (hw : wp_X5_isSought h M Q) : Ct l G yX5_isSought cX5_isSought 1 (some .boolean) ({ frames := 0, cells := 0, slots := 0, locals := 0 } : Room) [.ref (G.1 + h)] M (Qi Q) := by
  unfold wp_X5_isSought at hw
  obtain ⟨kh, hw⟩ := hw
  refine ct_of (by decide) (Nat.le_of_ble_eq_true rfl) ?_
  intro p e s m below meth c E_ ls H hl hP hS
  obtain ⟨hx, hb, hml, hown, hts, ht, hr, hlocks, hSt, hTb⟩ := E_
  have hl : lv_has ls 1 [(0, .ref (G.1 + h))] := hl
  refine lv_aload_n hx hb dX5_isSought_0 rfl (lv_at hl 0 rfl) ?_
  refine mw_get (ci := 5) (v := .int (M h 5)) (C := RX5) (T := TX5) (N := 6) hx hb ht inX5 hown hSt hP kh (by decide) (mk5 kh) rfl 5 (by decide) (ht _ wf_RX5_27) rfl rfl dX5_isSought_1 ?_
  refine lv_if_ne (tgt := 18) hx hb dX5_isSought_4 (by decide) (fun c_1 => ?_) (fun c_1 => ?_)
  · have hw := hw.1 c_1
    refine lv_iconst (v := 0) hx hb dX5_isSought_18 (by decide) ?_
    exact W.zret (v := 0) hx hb hr (by decide) (mw_end hP hSt hTb hS ⟨_, rfl, hw⟩) hS.2.2 dX5_isSought_19
  · have hw := hw.2 c_1
    refine lv_aload_n hx hb dX5_isSought_7 rfl (lv_at hl 0 rfl) ?_
    refine mw_get (ci := 5) (v := .int (M h 3)) (C := RX5) (T := TX5) (N := 6) hx hb ht inX5 hown hSt hP kh (by decide) (mk5 kh) rfl 3 (by decide) (ht _ wf_RX5_21) rfl rfl dX5_isSought_8 ?_
    refine lv_if_le (tgt := 18) hx hb dX5_isSought_11 (by decide) (fun c_2 => ?_) (fun c_2 => ?_)
    · have hw := hw.1 c_2
      refine lv_iconst (v := 0) hx hb dX5_isSought_18 (by decide) ?_
      exact W.zret (v := 0) hx hb hr (by decide) (mw_end hP hSt hTb hS ⟨_, rfl, hw⟩) hS.2.2 dX5_isSought_19
    · have hw := hw.2 c_2
      refine lv_iconst (v := 1) hx hb dX5_isSought_14 (by decide) ?_
      refine lv_goto (tgt := 19) hx hb dX5_isSought_15 (by decide) ?_
      exact W.zret (v := 1) hx hb hr (by decide) (mw_end hP hSt hTb hS ⟨_, rfl, hw⟩) hS.2.2 dX5_isSought_19
def wp_X5_cold (h : Nat) (a1 : Int32) (M : Mem) (Q : Int32 → Mem → Prop) : Prop :=
  kdT h = 5 ∧ (((M h 0) = 1 → (¬ (irm a1 2) = 0 → Q 0 M) ∧ ((irm a1 2) = 0 → Q 1 M)) ∧ ((M h 0) = 2 → Q (1 + (irm (M h 1) 2)) M) ∧ ((M h 0) = 3 → Q 3 M) ∧ ((M h 0) = 4 → (¬ (irm a1 2) = 0 → Q 0 M) ∧ ((irm a1 2) = 0 → Q 1 M)) ∧ ((M h 0) = 5 → Q (1 + (irm (M h 1) 2)) M) ∧ ((M h 0) = 6 → Q 3 M) ∧ (¬ (M h 0) = 1 → ¬ (M h 0) = 2 → ¬ (M h 0) = 3 → ¬ (M h 0) = 4 → ¬ (M h 0) = 5 → ¬ (M h 0) = 6 → Q 1 M))
set_option maxHeartbeats 4000000 in
set_option maxRecDepth 100000 in
theorem so_X5_cold (l : Launch) (G : Gm) (h : Nat) (a1 : Int32) (M : Mem) (Q : Int32 → Mem → Prop) (hw : wp_X5_cold h a1 M Q) : Ct l G yX5_cold cX5_cold 2 (some .int) ({ frames := 0, cells := 0, slots := 0, locals := 0 } : Room) [.ref (G.1 + h), .int a1] M (Qi Q) := by
  unfold wp_X5_cold at hw
  obtain ⟨kh, hw⟩ := hw
  refine ct_of (by decide) (Nat.le_of_ble_eq_true rfl) ?_
  intro p e s m below meth c E_ ls H hl hP hS
  obtain ⟨hx, hb, hml, hown, hts, ht, hr, hlocks, hSt, hTb⟩ := E_
  have hl : lv_has ls 2 [(0, .ref (G.1 + h)), (1, .int a1)] := hl
  refine lv_aload_n hx hb dX5_cold_0 rfl (lv_at hl 0 rfl) ?_
  refine mw_get (ci := 5) (v := .int (M h 0)) (C := RX5) (T := TX5) (N := 6) hx hb ht inX5 hown hSt hP kh (by decide) (mk5 kh) rfl 0 (by decide) (ht _ wf_RX5_9) rfl rfl dX5_cold_1 ?_
  by_cases c_1 : (M h 0) = 1
  · have hw := hw.1 c_1
    refine mw_tcase (tgt := 44) (off := 40) hx hb dX5_cold_4 c_1 (by decide) ?_
    refine lv_iload_n hx hb dX5_cold_44 rfl (lv_at hl 1 rfl) ?_
    refine lv_iconst (v := 2) hx hb dX5_cold_45 (by decide) ?_
    refine lv_irem hx hb dX5_cold_46 (by decide) ?_
    refine lv_if_ne (tgt := 54) hx hb dX5_cold_47 (by decide) (fun c_2 => ?_) (fun c_2 => ?_)
    · have hw := hw.1 c_2
      refine lv_iconst (v := 0) hx hb dX5_cold_54 (by decide) ?_
      exact W.iret hx hb hr (mw_end hP hSt hTb hS ⟨_, rfl, hw⟩) hS.2.2 dX5_cold_55
    · have hw := hw.2 c_2
      refine lv_iconst (v := 1) hx hb dX5_cold_50 (by decide) ?_
      refine lv_goto (tgt := 55) hx hb dX5_cold_51 (by decide) ?_
      exact W.iret hx hb hr (mw_end hP hSt hTb hS ⟨_, rfl, hw⟩) hS.2.2 dX5_cold_55
  by_cases c_3 : (M h 0) = 2
  · have hw := hw.2.1 c_3
    refine mw_tcase (tgt := 56) (off := 52) hx hb dX5_cold_4 c_3 (by decide) ?_
    refine lv_iconst (v := 1) hx hb dX5_cold_56 (by decide) ?_
    refine lv_aload_n hx hb dX5_cold_57 rfl (lv_at hl 0 rfl) ?_
    refine mw_get (ci := 5) (v := .int (M h 1)) (C := RX5) (T := TX5) (N := 6) hx hb ht inX5 hown hSt hP kh (by decide) (mk5 kh) rfl 1 (by decide) (ht _ wf_RX5_15) rfl rfl dX5_cold_58 ?_
    refine lv_iconst (v := 2) hx hb dX5_cold_61 (by decide) ?_
    refine lv_irem hx hb dX5_cold_62 (by decide) ?_
    refine lv_iadd hx hb dX5_cold_63 ?_
    exact W.iret hx hb hr (mw_end hP hSt hTb hS ⟨_, rfl, hw⟩) hS.2.2 dX5_cold_64
  by_cases c_4 : (M h 0) = 3
  · have hw := hw.2.2.1 c_4
    refine mw_tcase (tgt := 65) (off := 61) hx hb dX5_cold_4 c_4 (by decide) ?_
    refine lv_iconst (v := 3) hx hb dX5_cold_65 (by decide) ?_
    exact W.iret hx hb hr (mw_end hP hSt hTb hS ⟨_, rfl, hw⟩) hS.2.2 dX5_cold_66
  by_cases c_5 : (M h 0) = 4
  · have hw := hw.2.2.2.1 c_5
    refine mw_tcase (tgt := 44) (off := 40) hx hb dX5_cold_4 c_5 (by decide) ?_
    refine lv_iload_n hx hb dX5_cold_44 rfl (lv_at hl 1 rfl) ?_
    refine lv_iconst (v := 2) hx hb dX5_cold_45 (by decide) ?_
    refine lv_irem hx hb dX5_cold_46 (by decide) ?_
    refine lv_if_ne (tgt := 54) hx hb dX5_cold_47 (by decide) (fun c_6 => ?_) (fun c_6 => ?_)
    · have hw := hw.1 c_6
      refine lv_iconst (v := 0) hx hb dX5_cold_54 (by decide) ?_
      exact W.iret hx hb hr (mw_end hP hSt hTb hS ⟨_, rfl, hw⟩) hS.2.2 dX5_cold_55
    · have hw := hw.2 c_6
      refine lv_iconst (v := 1) hx hb dX5_cold_50 (by decide) ?_
      refine lv_goto (tgt := 55) hx hb dX5_cold_51 (by decide) ?_
      exact W.iret hx hb hr (mw_end hP hSt hTb hS ⟨_, rfl, hw⟩) hS.2.2 dX5_cold_55
  by_cases c_7 : (M h 0) = 5
  · have hw := hw.2.2.2.2.1 c_7
    refine mw_tcase (tgt := 56) (off := 52) hx hb dX5_cold_4 c_7 (by decide) ?_
    refine lv_iconst (v := 1) hx hb dX5_cold_56 (by decide) ?_
    refine lv_aload_n hx hb dX5_cold_57 rfl (lv_at hl 0 rfl) ?_
    refine mw_get (ci := 5) (v := .int (M h 1)) (C := RX5) (T := TX5) (N := 6) hx hb ht inX5 hown hSt hP kh (by decide) (mk5 kh) rfl 1 (by decide) (ht _ wf_RX5_15) rfl rfl dX5_cold_58 ?_
    refine lv_iconst (v := 2) hx hb dX5_cold_61 (by decide) ?_
    refine lv_irem hx hb dX5_cold_62 (by decide) ?_
    refine lv_iadd hx hb dX5_cold_63 ?_
    exact W.iret hx hb hr (mw_end hP hSt hTb hS ⟨_, rfl, hw⟩) hS.2.2 dX5_cold_64
  by_cases c_8 : (M h 0) = 6
  · have hw := hw.2.2.2.2.2.1 c_8
    refine mw_tcase (tgt := 65) (off := 61) hx hb dX5_cold_4 c_8 (by decide) ?_
    refine lv_iconst (v := 3) hx hb dX5_cold_65 (by decide) ?_
    exact W.iret hx hb hr (mw_end hP hSt hTb hS ⟨_, rfl, hw⟩) hS.2.2 dX5_cold_66
  have hw := hw.2.2.2.2.2.2 c_1 c_3 c_4 c_5 c_7 c_8
  refine mw_tdef (keys := [1, 2, 3, 4, 5, 6]) (tgt := 67) hx hb dX5_cold_4 (List.forall_mem_cons.mpr ⟨c_1, (List.forall_mem_cons.mpr ⟨c_3, (List.forall_mem_cons.mpr ⟨c_4, (List.forall_mem_cons.mpr ⟨c_5, (List.forall_mem_cons.mpr ⟨c_7, (List.forall_mem_cons.mpr ⟨c_8, (fun _ h_ => absurd h_ List.not_mem_nil)⟩)⟩)⟩)⟩)⟩)⟩) (by decide) (by decide) ?_
  refine lv_iconst (v := 1) hx hb dX5_cold_67 (by decide) ?_
  exact W.iret hx hb hr (mw_end hP hSt hTb hS ⟨_, rfl, hw⟩) hS.2.2 dX5_cold_68
def wp_X5_heardAsLamb (h : Nat) (M : Mem) (Q : Int32 → Mem → Prop) : Prop :=
  kdT h = 5 ∧ (Q (imx (0 : Int32) (5 - ((M h 1) / 2))) M)
set_option maxHeartbeats 4000000 in
set_option maxRecDepth 100000 in
theorem so_X5_heardAsLamb (l : Launch) (G : Gm) (h : Nat) (M : Mem) (Q : Int32 → Mem → Prop) (hw : wp_X5_heardAsLamb h M Q) : Ct l G yX5_heardAsLamb cX5_heardAsLamb 1 (some .int) ({ frames := 1, cells := 0, slots := 0, locals := 60 } : Room) [.ref (G.1 + h)] M (Qi Q) := by
  unfold wp_X5_heardAsLamb at hw
  obtain ⟨kh, hw⟩ := hw
  refine ct_of (by decide) (Nat.le_of_ble_eq_true rfl) ?_
  intro p e s m below meth c E_ ls H hl hP hS
  obtain ⟨hx, hb, hml, hown, hts, ht, hr, hlocks, hSt, hTb⟩ := E_
  have hl : lv_has ls 1 [(0, .ref (G.1 + h))] := hl
  refine lv_iconst (v := 0) hx hb dX5_heardAsLamb_0 (by decide) ?_
  refine lv_iconst (v := 5) hx hb dX5_heardAsLamb_1 (by decide) ?_
  refine lv_aload_n hx hb dX5_heardAsLamb_2 rfl (lv_at hl 0 rfl) ?_
  refine mw_get (ci := 5) (v := .int (M h 1)) (C := RX5) (T := TX5) (N := 6) hx hb ht inX5 hown hSt hP kh (by decide) (mk5 kh) rfl 1 (by decide) (ht _ wf_RX5_15) rfl rfl dX5_heardAsLamb_3 ?_
  refine lv_iconst (v := 2) hx hb dX5_heardAsLamb_6 (by decide) ?_
  refine lv_idiv hx hb dX5_heardAsLamb_7 (by decide) ?_
  refine lv_isub hx hb dX5_heardAsLamb_8 ?_
  refine va_mmax (rest := []) hx hb (hml.trans hl.1.symm) hown (ht _ wm_RX5_41) (ht _ wt_yJ9_max_7cf53) (ht _ wn_RJ9) (ht _ wc_yJ9_max_7cf53) (Nat.le_of_ble_eq_true rfl) (Nat.le_of_ble_eq_true rfl) (Nat.zero_le _) (Nat.zero_le _) dX5_heardAsLamb_9 ?_
  exact W.iret hx hb hr (mw_end hP hSt hTb hS ⟨_, rfl, hw⟩) hS.2.2 dX5_heardAsLamb_12
def wp_J6_bitCount_0f7a4 (a0 : Int32) (M : Mem) (Q : Int32 → Mem → Prop) : Prop :=
  ∀ x_1, x_1 = a0 - ((ius a0 1) &&& 1431655765) → ∀ x_2, x_2 = (x_1 &&& 858993459) + ((ius x_1 2) &&& 858993459) → ∀ x_3, x_3 = (x_2 + (ius x_2 4)) &&& 252645135 → ∀ x_4, x_4 = x_3 + (ius x_3 8) → ∀ x_5, x_5 = x_4 + (ius x_4 16) → Q (x_5 &&& 63) M
set_option maxHeartbeats 4000000 in
set_option maxRecDepth 100000 in
theorem so_J6_bitCount_0f7a4 (l : Launch) (G : Gm) (a0 : Int32) (M : Mem) (Q : Int32 → Mem → Prop) (hw : wp_J6_bitCount_0f7a4 a0 M Q) : Ct l G yJ6_bitCount_0f7a4 cJ6_bitCount_0f7a4 1 (some .int) ({ frames := 0, cells := 0, slots := 0, locals := 0 } : Room) [.int a0] M (Qi Q) := by
  unfold wp_J6_bitCount_0f7a4 at hw
  refine ct_of (by decide) (Nat.le_of_ble_eq_true rfl) ?_
  intro p e s m below meth c E_ ls H hl hP hS
  obtain ⟨hx, hb, hml, hown, hts, ht, hr, hlocks, hSt, hTb⟩ := E_
  have hl : lv_has ls 1 [(0, .int a0)] := hl
  refine lv_iload_n hx hb dJ6_bitCount_0f7a4_0 rfl (lv_at hl 0 rfl) ?_
  refine lv_iload_n hx hb dJ6_bitCount_0f7a4_1 rfl (lv_at hl 0 rfl) ?_
  refine lv_iconst (v := 1) hx hb dJ6_bitCount_0f7a4_2 (by decide) ?_
  refine lv_iushr (v := ius a0 1) hx hb dJ6_bitCount_0f7a4_3 rfl ?_
  refine lv_ldcw (v := 1431655765) hx hb hown (ht _ wk_RJ6_265) dJ6_bitCount_0f7a4_4 ?_
  refine lv_iand hx hb dJ6_bitCount_0f7a4_7 ?_
  refine lv_isub hx hb dJ6_bitCount_0f7a4_8 ?_
  refine lv_topi (fun x_1 ex_1 => ?_)
  have hw := hw x_1 ex_1
  refine lv_istore_n (lv' := [(0, .int x_1)]) hx hb dJ6_bitCount_0f7a4_9 rfl hl (by decide) rfl (fun ls hl => ?_)
  refine lv_iload_n hx hb dJ6_bitCount_0f7a4_10 rfl (lv_at hl 0 rfl) ?_
  refine lv_ldcw (v := 858993459) hx hb hown (ht _ wk_RJ6_266) dJ6_bitCount_0f7a4_11 ?_
  refine lv_iand hx hb dJ6_bitCount_0f7a4_14 ?_
  refine lv_iload_n hx hb dJ6_bitCount_0f7a4_15 rfl (lv_at hl 0 rfl) ?_
  refine lv_iconst (v := 2) hx hb dJ6_bitCount_0f7a4_16 (by decide) ?_
  refine lv_iushr (v := ius x_1 2) hx hb dJ6_bitCount_0f7a4_17 rfl ?_
  refine lv_ldcw (v := 858993459) hx hb hown (ht _ wk_RJ6_266) dJ6_bitCount_0f7a4_18 ?_
  refine lv_iand hx hb dJ6_bitCount_0f7a4_21 ?_
  refine lv_iadd hx hb dJ6_bitCount_0f7a4_22 ?_
  refine lv_topi (fun x_2 ex_2 => ?_)
  have hw := hw x_2 ex_2
  refine lv_istore_n (lv' := [(0, .int x_2)]) hx hb dJ6_bitCount_0f7a4_23 rfl hl (by decide) rfl (fun ls hl => ?_)
  refine lv_iload_n hx hb dJ6_bitCount_0f7a4_24 rfl (lv_at hl 0 rfl) ?_
  refine lv_iload_n hx hb dJ6_bitCount_0f7a4_25 rfl (lv_at hl 0 rfl) ?_
  refine lv_iconst (v := 4) hx hb dJ6_bitCount_0f7a4_26 (by decide) ?_
  refine lv_iushr (v := ius x_2 4) hx hb dJ6_bitCount_0f7a4_27 rfl ?_
  refine lv_iadd hx hb dJ6_bitCount_0f7a4_28 ?_
  refine lv_ldcw (v := 252645135) hx hb hown (ht _ wk_RJ6_267) dJ6_bitCount_0f7a4_29 ?_
  refine lv_iand hx hb dJ6_bitCount_0f7a4_32 ?_
  refine lv_topi (fun x_3 ex_3 => ?_)
  have hw := hw x_3 ex_3
  refine lv_istore_n (lv' := [(0, .int x_3)]) hx hb dJ6_bitCount_0f7a4_33 rfl hl (by decide) rfl (fun ls hl => ?_)
  refine lv_iload_n hx hb dJ6_bitCount_0f7a4_34 rfl (lv_at hl 0 rfl) ?_
  refine lv_iload_n hx hb dJ6_bitCount_0f7a4_35 rfl (lv_at hl 0 rfl) ?_
  refine lv_bipush (v := 8) hx hb dJ6_bitCount_0f7a4_36 (by decide) ?_
  refine lv_iushr (v := ius x_3 8) hx hb dJ6_bitCount_0f7a4_38 rfl ?_
  refine lv_iadd hx hb dJ6_bitCount_0f7a4_39 ?_
  refine lv_topi (fun x_4 ex_4 => ?_)
  have hw := hw x_4 ex_4
  refine lv_istore_n (lv' := [(0, .int x_4)]) hx hb dJ6_bitCount_0f7a4_40 rfl hl (by decide) rfl (fun ls hl => ?_)
  refine lv_iload_n hx hb dJ6_bitCount_0f7a4_41 rfl (lv_at hl 0 rfl) ?_
  refine lv_iload_n hx hb dJ6_bitCount_0f7a4_42 rfl (lv_at hl 0 rfl) ?_
  refine lv_bipush (v := 16) hx hb dJ6_bitCount_0f7a4_43 (by decide) ?_
  refine lv_iushr (v := ius x_4 16) hx hb dJ6_bitCount_0f7a4_45 rfl ?_
  refine lv_iadd hx hb dJ6_bitCount_0f7a4_46 ?_
  refine lv_topi (fun x_5 ex_5 => ?_)
  have hw := hw x_5 ex_5
  refine lv_istore_n (lv' := [(0, .int x_5)]) hx hb dJ6_bitCount_0f7a4_47 rfl hl (by decide) rfl (fun ls hl => ?_)
  refine lv_iload_n hx hb dJ6_bitCount_0f7a4_48 rfl (lv_at hl 0 rfl) ?_
  refine lv_bipush (v := 63) hx hb dJ6_bitCount_0f7a4_49 (by decide) ?_
  refine lv_iand hx hb dJ6_bitCount_0f7a4_51 ?_
  exact W.iret hx hb hr (mw_end hP hSt hTb hS ⟨_, rfl, hw⟩) hS.2.2 dJ6_bitCount_0f7a4_52
def wp_X5_heard (h : Nat) (a1 : Int32) (M : Mem) (Q : Int32 → Mem → Prop) : Prop :=
  kdT h = 5 ∧ (((M h 0) = 1 → Q (5 + (M h 1)) M) ∧ ((M h 0) = 2 → Q 10 M) ∧ ((M h 0) = 3 → wp_X5_heardAsLamb h M (fun r_5 M_4 => Q r_5 M_4)) ∧ ((M h 0) = 4 → Q ((5 + (M h 1)) + 50) M) ∧ ((M h 0) = 5 → (¬ (irm a1 2) = 0 → Q 0 M) ∧ ((irm a1 2) = 0 → Q 10 M)) ∧ ((M h 0) = 6 → wp_J6_bitCount_0f7a4 (M h 4) M (fun r_11 M_10 => (¬ r_11 = 1 → wp_X5_heardAsLamb h M_10 (fun r_14 M_13 => Q r_14 M_13)) ∧ (r_11 = 1 → Q 0 M_10))) ∧ (¬ (M h 0) = 1 → ¬ (M h 0) = 2 → ¬ (M h 0) = 3 → ¬ (M h 0) = 4 → ¬ (M h 0) = 5 → ¬ (M h 0) = 6 → Q 5 M))
set_option maxHeartbeats 4000000 in
set_option maxRecDepth 100000 in
theorem so_X5_heard (l : Launch) (G : Gm) (h : Nat) (a1 : Int32) (M : Mem) (Q : Int32 → Mem → Prop) (hw : wp_X5_heard h a1 M Q) : Ct l G yX5_heard cX5_heard 2 (some .int) ({ frames := 2, cells := 0, slots := 0, locals := 80 } : Room) [.ref (G.1 + h), .int a1] M (Qi Q) := by
  unfold wp_X5_heard at hw
  obtain ⟨kh, hw⟩ := hw
  refine ct_of (by decide) (Nat.le_of_ble_eq_true rfl) ?_
  intro p e s m below meth c E_ ls H hl hP hS
  obtain ⟨hx, hb, hml, hown, hts, ht, hr, hlocks, hSt, hTb⟩ := E_
  have hl : lv_has ls 2 [(0, .ref (G.1 + h)), (1, .int a1)] := hl
  refine lv_aload_n hx hb dX5_heard_0 rfl (lv_at hl 0 rfl) ?_
  refine mw_get (ci := 5) (v := .int (M h 0)) (C := RX5) (T := TX5) (N := 6) hx hb ht inX5 hown hSt hP kh (by decide) (mk5 kh) rfl 0 (by decide) (ht _ wf_RX5_9) rfl rfl dX5_heard_1 ?_
  by_cases c_1 : (M h 0) = 1
  · have hw := hw.1 c_1
    refine mw_tcase (tgt := 44) (off := 40) hx hb dX5_heard_4 c_1 (by decide) ?_
    refine lv_iconst (v := 5) hx hb dX5_heard_44 (by decide) ?_
    refine lv_aload_n hx hb dX5_heard_45 rfl (lv_at hl 0 rfl) ?_
    refine mw_get (ci := 5) (v := .int (M h 1)) (C := RX5) (T := TX5) (N := 6) hx hb ht inX5 hown hSt hP kh (by decide) (mk5 kh) rfl 1 (by decide) (ht _ wf_RX5_15) rfl rfl dX5_heard_46 ?_
    refine lv_iadd hx hb dX5_heard_49 ?_
    exact W.iret hx hb hr (mw_end hP hSt hTb hS ⟨_, rfl, hw⟩) hS.2.2 dX5_heard_50
  by_cases c_2 : (M h 0) = 2
  · have hw := hw.2.1 c_2
    refine mw_tcase (tgt := 51) (off := 47) hx hb dX5_heard_4 c_2 (by decide) ?_
    refine lv_bipush (v := 10) hx hb dX5_heard_51 (by decide) ?_
    exact W.iret hx hb hr (mw_end hP hSt hTb hS ⟨_, rfl, hw⟩) hS.2.2 dX5_heard_53
  by_cases c_3 : (M h 0) = 3
  · have hw := hw.2.2.1 c_3
    refine mw_tcase (tgt := 54) (off := 50) hx hb dX5_heard_4 c_3 (by decide) ?_
    refine lv_aload_n hx hb dX5_heard_54 rfl (lv_at hl 0 rfl) ?_
    refine mw_V (As := []) (rest := []) (T := TX5) (N := 6) (n := 0) ⟨hx, hb, hml, hown, hts⟩ (so_X5_heardAsLamb l G h M _ hw) wm_RX5_31 wi_yX5_heardAsLamb wv_yX5_heardAsLamb wn_RX5 wc_yX5_heardAsLamb (by decide) ⟨Nat.le_of_ble_eq_true rfl, Nat.le_of_ble_eq_true rfl⟩ ⟨rfl, rfl⟩ kh (by decide) (mk5 kh) rfl hSt hTb hP hS rfl hl.1 rfl (Nat.le_of_ble_eq_true rfl) dX5_heard_55 ⟨Nat.le_refl 0, Nat.le_refl 0⟩ (fun rr_ M_4 H locs hq hP hS => ?_)
    obtain ⟨r_5, rfl, hw⟩ := hq
    exact W.iret hx hb hr (mw_end hP hSt hTb hS ⟨_, rfl, hw⟩) hS.2.2 dX5_heard_58
  by_cases c_6 : (M h 0) = 4
  · have hw := hw.2.2.2.1 c_6
    refine mw_tcase (tgt := 59) (off := 55) hx hb dX5_heard_4 c_6 (by decide) ?_
    refine lv_iconst (v := 5) hx hb dX5_heard_59 (by decide) ?_
    refine lv_aload_n hx hb dX5_heard_60 rfl (lv_at hl 0 rfl) ?_
    refine mw_get (ci := 5) (v := .int (M h 1)) (C := RX5) (T := TX5) (N := 6) hx hb ht inX5 hown hSt hP kh (by decide) (mk5 kh) rfl 1 (by decide) (ht _ wf_RX5_15) rfl rfl dX5_heard_61 ?_
    refine lv_iadd hx hb dX5_heard_64 ?_
    refine lv_bipush (v := 50) hx hb dX5_heard_65 (by decide) ?_
    refine lv_iadd hx hb dX5_heard_67 ?_
    exact W.iret hx hb hr (mw_end hP hSt hTb hS ⟨_, rfl, hw⟩) hS.2.2 dX5_heard_68
  by_cases c_7 : (M h 0) = 5
  · have hw := hw.2.2.2.2.1 c_7
    refine mw_tcase (tgt := 69) (off := 65) hx hb dX5_heard_4 c_7 (by decide) ?_
    refine lv_iload_n hx hb dX5_heard_69 rfl (lv_at hl 1 rfl) ?_
    refine lv_iconst (v := 2) hx hb dX5_heard_70 (by decide) ?_
    refine lv_irem hx hb dX5_heard_71 (by decide) ?_
    refine lv_if_ne (tgt := 80) hx hb dX5_heard_72 (by decide) (fun c_8 => ?_) (fun c_8 => ?_)
    · have hw := hw.1 c_8
      refine lv_iconst (v := 0) hx hb dX5_heard_80 (by decide) ?_
      exact W.iret hx hb hr (mw_end hP hSt hTb hS ⟨_, rfl, hw⟩) hS.2.2 dX5_heard_81
    · have hw := hw.2 c_8
      refine lv_bipush (v := 10) hx hb dX5_heard_75 (by decide) ?_
      refine lv_goto (tgt := 81) hx hb dX5_heard_77 (by decide) ?_
      exact W.iret hx hb hr (mw_end hP hSt hTb hS ⟨_, rfl, hw⟩) hS.2.2 dX5_heard_81
  by_cases c_9 : (M h 0) = 6
  · have hw := hw.2.2.2.2.2.1 c_9
    refine mw_tcase (tgt := 82) (off := 78) hx hb dX5_heard_4 c_9 (by decide) ?_
    refine lv_aload_n hx hb dX5_heard_82 rfl (lv_at hl 0 rfl) ?_
    refine mw_get (ci := 5) (v := .int (M h 4)) (C := RX5) (T := TX5) (N := 6) hx hb ht inX5 hown hSt hP kh (by decide) (mk5 kh) rfl 4 (by decide) (ht _ wf_RX5_24) rfl rfl dX5_heard_83 ?_
    refine mw_Sx (As := [.int (M h 4)]) (rest := []) (n := 1) ⟨hx, hb, hml, hown, hts⟩ (so_J6_bitCount_0f7a4 l G (M h 4) M _ hw) wm_RX5_35 wt_yJ6_bitCount_0f7a4 wn_RJ6 wc_yJ6_bitCount_0f7a4 (by decide) ⟨Nat.le_of_ble_eq_true rfl, Nat.le_of_ble_eq_true rfl⟩ ⟨rfl, rfl⟩ hSt hTb hP hS rfl hl.1 rfl (Nat.le_of_ble_eq_true rfl) dX5_heard_86 ⟨Nat.le_refl 0, Nat.le_refl 0⟩ (fun rr_ M_10 H locs hq hP hS => ?_)
    obtain ⟨r_11, rfl, hw⟩ := hq
    refine lv_iconst (v := 1) hx hb dX5_heard_89 (by decide) ?_
    refine lv_icmp_ne (tgt := 97) hx hb dX5_heard_90 (by decide) (fun c_12 => ?_) (fun c_12 => ?_)
    · have hw := hw.1 c_12
      refine lv_aload_n hx hb dX5_heard_97 rfl (lv_at hl 0 rfl) ?_
      refine mw_V (As := []) (rest := []) (T := TX5) (N := 6) (n := 0) ⟨hx, hb, hml, hown, hts⟩ (so_X5_heardAsLamb l G h M_10 _ hw) wm_RX5_31 wi_yX5_heardAsLamb wv_yX5_heardAsLamb wn_RX5 wc_yX5_heardAsLamb (by decide) ⟨Nat.le_of_ble_eq_true rfl, Nat.le_of_ble_eq_true rfl⟩ ⟨rfl, rfl⟩ kh (by decide) (mk5 kh) rfl hSt hTb hP hS rfl hl.1 rfl (Nat.le_of_ble_eq_true rfl) dX5_heard_98 ⟨Nat.le_refl 0, Nat.le_refl 0⟩ (fun rr_ M_13 H locs hq hP hS => ?_)
      obtain ⟨r_14, rfl, hw⟩ := hq
      exact W.iret hx hb hr (mw_end hP hSt hTb hS ⟨_, rfl, hw⟩) hS.2.2 dX5_heard_101
    · have hw := hw.2 c_12
      refine lv_iconst (v := 0) hx hb dX5_heard_93 (by decide) ?_
      refine lv_goto (tgt := 101) hx hb dX5_heard_94 (by decide) ?_
      exact W.iret hx hb hr (mw_end hP hSt hTb hS ⟨_, rfl, hw⟩) hS.2.2 dX5_heard_101
  have hw := hw.2.2.2.2.2.2 c_1 c_2 c_3 c_6 c_7 c_9
  refine mw_tdef (keys := [1, 2, 3, 4, 5, 6]) (tgt := 102) hx hb dX5_heard_4 (List.forall_mem_cons.mpr ⟨c_1, (List.forall_mem_cons.mpr ⟨c_2, (List.forall_mem_cons.mpr ⟨c_3, (List.forall_mem_cons.mpr ⟨c_6, (List.forall_mem_cons.mpr ⟨c_7, (List.forall_mem_cons.mpr ⟨c_9, (fun _ h_ => absurd h_ List.not_mem_nil)⟩)⟩)⟩)⟩)⟩)⟩) (by decide) (by decide) ?_
  refine lv_iconst (v := 5) hx hb dX5_heard_102 (by decide) ?_
  exact W.iret hx hb hr (mw_end hP hSt hTb hS ⟨_, rfl, hw⟩) hS.2.2 dX5_heard_103
def wp_X3_holds (h : Nat) (a1 : Int32) (M : Mem) (Q : Int32 → Mem → Prop) : Prop :=
  kdT h = 3 ∧ ((a1 < 0 → Q 0 M) ∧ (¬ a1 < 0 → ((M h 1) ≤ a1 → Q 0 M) ∧ (¬ (M h 1) ≤ a1 → Q 1 M)))
set_option maxHeartbeats 4000000 in
set_option maxRecDepth 100000 in
theorem so_X3_holds (l : Launch) (G : Gm) (h : Nat) (a1 : Int32) (M : Mem) (Q : Int32 → Mem → Prop) (hw : wp_X3_holds h a1 M Q) : Ct l G yX3_holds cX3_holds 2 (some .boolean) ({ frames := 0, cells := 0, slots := 0, locals := 0 } : Room) [.ref (G.1 + h), .int a1] M (Qi Q) := by
  unfold wp_X3_holds at hw
  obtain ⟨kh, hw⟩ := hw
  refine ct_of (by decide) (Nat.le_of_ble_eq_true rfl) ?_
  intro p e s m below meth c E_ ls H hl hP hS
  obtain ⟨hx, hb, hml, hown, hts, ht, hr, hlocks, hSt, hTb⟩ := E_
  have hl : lv_has ls 2 [(0, .ref (G.1 + h)), (1, .int a1)] := hl
  refine lv_iload_n hx hb dX3_holds_0 rfl (lv_at hl 1 rfl) ?_
  refine lv_if_lt (tgt := 16) hx hb dX3_holds_1 (by decide) (fun c_1 => ?_) (fun c_1 => ?_)
  · have hw := hw.1 c_1
    refine lv_iconst (v := 0) hx hb dX3_holds_16 (by decide) ?_
    exact W.zret (v := 0) hx hb hr (by decide) (mw_end hP hSt hTb hS ⟨_, rfl, hw⟩) hS.2.2 dX3_holds_17
  · have hw := hw.2 c_1
    refine lv_iload_n hx hb dX3_holds_4 rfl (lv_at hl 1 rfl) ?_
    refine lv_aload_n hx hb dX3_holds_5 rfl (lv_at hl 0 rfl) ?_
    refine mw_get (ci := 3) (v := .int (M h 1)) (C := RX3) (T := TX3) (N := 2) hx hb ht inX3 hown hSt hP kh (by decide) (mk3 kh) rfl 1 (by decide) (ht _ wf_RX3_19) rfl rfl dX3_holds_6 ?_
    refine lv_icmp_ge (tgt := 16) hx hb dX3_holds_9 (by decide) (fun c_2 => ?_) (fun c_2 => ?_)
    · have hw := hw.1 c_2
      refine lv_iconst (v := 0) hx hb dX3_holds_16 (by decide) ?_
      exact W.zret (v := 0) hx hb hr (by decide) (mw_end hP hSt hTb hS ⟨_, rfl, hw⟩) hS.2.2 dX3_holds_17
    · have hw := hw.2 c_2
      refine lv_iconst (v := 1) hx hb dX3_holds_12 (by decide) ?_
      refine lv_goto (tgt := 17) hx hb dX3_holds_13 (by decide) ?_
      exact W.zret (v := 1) hx hb hr (by decide) (mw_end hP hSt hTb hS ⟨_, rfl, hw⟩) hS.2.2 dX3_holds_17
def wp_X3_copyFrom (h : Nat) (a1 : Nat) (M : Mem) (Q : Mem → Prop) : Prop :=
  kdT h = 3 ∧ kdT a1 = 3 ∧ (∀ M_1, M_1 = mu M h 1 (imn (M a1 1) (nI (lnT (h + 1)))) → (¬ (0 : Int32) < 0 ∧ ¬ (0 : Int32) < 0 ∧ ¬ (M_1 h 1) < 0 ∧ (0 : Int32).toNatClampNeg + (M_1 h 1).toNatClampNeg ≤ lnT (a1 + 1) ∧ (0 : Int32).toNatClampNeg + (M_1 h 1).toNatClampNeg ≤ lnT (h + 1)) ∧ ∀ M_3, M_3 = mcp M_1 (a1 + 1) (0 : Int32).toNatClampNeg (h + 1) (0 : Int32).toNatClampNeg (M_1 h 1).toNatClampNeg → Q M_3)
set_option maxHeartbeats 4000000 in
set_option maxRecDepth 100000 in
theorem so_X3_copyFrom (l : Launch) (G : Gm) (h : Nat) (a1 : Nat) (M : Mem) (Q : Mem → Prop) (hw : wp_X3_copyFrom h a1 M Q) : Ct l G yX3_copyFrom cX3_copyFrom 2 none ({ frames := 1, cells := 0, slots := 0, locals := 60 } : Room) [.ref (G.1 + h), .ref (G.1 + a1)] M (Qv Q) := by
  unfold wp_X3_copyFrom at hw
  obtain ⟨kh, ka1, hw⟩ := hw
  refine ct_of (by decide) (Nat.le_of_ble_eq_true rfl) ?_
  intro p e s m below meth c E_ ls H hl hP hS
  obtain ⟨hx, hb, hml, hown, hts, ht, hr, hlocks, hSt, hTb⟩ := E_
  have hl : lv_has ls 2 [(0, .ref (G.1 + h)), (1, .ref (G.1 + a1))] := hl
  refine lv_aload_n hx hb dX3_copyFrom_0 rfl (lv_at hl 0 rfl) ?_
  refine lv_aload_n hx hb dX3_copyFrom_1 rfl (lv_at hl 1 rfl) ?_
  refine mw_get (ci := 3) (v := .int (M a1 1)) (C := RX3) (T := TX3) (N := 2) hx hb ht inX3 hown hSt hP ka1 (by decide) (mk3 ka1) rfl 1 (by decide) (ht _ wf_RX3_19) rfl rfl dX3_copyFrom_2 ?_
  refine lv_aload_n hx hb dX3_copyFrom_5 rfl (lv_at hl 0 rfl) ?_
  refine mw_get (ci := 3) (v := .ref (G.1 + (h + 1))) (C := RX3) (T := TX3) (N := 2) hx hb ht inX3 hown hSt hP kh (by decide) (mk3 kh) rfl 0 (by decide) (ht _ wf_RX3_13) rfl rfl dX3_copyFrom_6 ?_
  refine mw_alen hx hb hSt hP (ks3_0 kh) dX3_copyFrom_9 ?_
  refine va_mmin (rest := [.ref (G.1 + h)]) hx hb (hml.trans hl.1.symm) hown (ht _ wm_RX3_37) (ht _ wt_yJ9_min_7cf53) (ht _ wn_RJ9) (ht _ wc_yJ9_min_7cf53) (Nat.le_of_ble_eq_true rfl) (Nat.le_of_ble_eq_true rfl) (Nat.zero_le _) (Nat.zero_le _) dX3_copyFrom_10 ?_
  refine mw_put (ci := 3) (v := imn (M a1 1) (nI (lnT (h + 1)))) (ty := .int) (C := RX3) (T := TX3) (N := 2) hx hb ht inX3 tyX3 tyX3_ok nmX3 hown hSt hP hS kh (by decide) (mk3 kh) rfl 1 (by decide) (ht _ wf_RX3_19) rfl rfl (by decide +kernel) (vp_nar_int _) rfl (Nat.le_of_ble_eq_true rfl) (by rw [mk3 kh]; simp [mu]) dX3_copyFrom_13 (fun M_1 H locs eM_1 hP hS => ?_)
  have hw := hw M_1 eM_1
  refine lv_aload_n hx hb dX3_copyFrom_16 rfl (lv_at hl 1 rfl) ?_
  refine mw_get (ci := 3) (v := .ref (G.1 + (a1 + 1))) (C := RX3) (T := TX3) (N := 2) hx hb ht inX3 hown hSt hP ka1 (by decide) (mk3 ka1) rfl 0 (by decide) (ht _ wf_RX3_13) rfl rfl dX3_copyFrom_17 ?_
  refine lv_iconst (v := 0) hx hb dX3_copyFrom_20 (by decide) ?_
  refine lv_aload_n hx hb dX3_copyFrom_21 rfl (lv_at hl 0 rfl) ?_
  refine mw_get (ci := 3) (v := .ref (G.1 + (h + 1))) (C := RX3) (T := TX3) (N := 2) hx hb ht inX3 hown hSt hP kh (by decide) (mk3 kh) rfl 0 (by decide) (ht _ wf_RX3_13) rfl rfl dX3_copyFrom_22 ?_
  refine lv_iconst (v := 0) hx hb dX3_copyFrom_25 (by decide) ?_
  refine lv_aload_n hx hb dX3_copyFrom_26 rfl (lv_at hl 0 rfl) ?_
  refine mw_get (ci := 3) (v := .int (M_1 h 1)) (C := RX3) (T := TX3) (N := 2) hx hb ht inX3 hown hSt hP kh (by decide) (mk3 kh) rfl 1 (by decide) (ht _ wf_RX3_19) rfl rfl dX3_copyFrom_27 ?_
  obtain ⟨c_2, hw⟩ := hw
  refine mw_copy hx hb (hml.trans hl.1.symm) hown (ht _ wm_RX3_31) (ht _ wna_arraycopy) (ht _ wt_arraycopy) (ht _ wn_RJ10) hSt hP hS (ks3_0 ka1) (ks3_0 kh) c_2 (Nat.le_of_ble_eq_true rfl) (Nat.le_of_ble_eq_true rfl) dX3_copyFrom_30 (fun M_3 H locs eM_3 hP hS => ?_)
  have hw := hw M_3 eM_3
  exact W.vret hx hb hr (mw_end hP hSt hTb hS ⟨rfl, hw⟩) hS.2.2 dX3_copyFrom_33
def wp_X4_copyFrom (h : Nat) (a1 : Nat) (M : Mem) (Q : Mem → Prop) : Prop :=
  kdT h = 4 ∧ kdT a1 = 4 ∧ (∀ M_1, M_1 = mu M h 0 (M a1 0) → ∀ M_2, M_2 = mu M_1 h 1 (M_1 a1 1) → Q M_2)
set_option maxHeartbeats 4000000 in
set_option maxRecDepth 100000 in
theorem so_X4_copyFrom (l : Launch) (G : Gm) (h : Nat) (a1 : Nat) (M : Mem) (Q : Mem → Prop) (hw : wp_X4_copyFrom h a1 M Q) : Ct l G yX4_copyFrom cX4_copyFrom 2 none ({ frames := 0, cells := 0, slots := 0, locals := 0 } : Room) [.ref (G.1 + h), .ref (G.1 + a1)] M (Qv Q) := by
  unfold wp_X4_copyFrom at hw
  obtain ⟨kh, ka1, hw⟩ := hw
  refine ct_of (by decide) (Nat.le_of_ble_eq_true rfl) ?_
  intro p e s m below meth c E_ ls H hl hP hS
  obtain ⟨hx, hb, hml, hown, hts, ht, hr, hlocks, hSt, hTb⟩ := E_
  have hl : lv_has ls 2 [(0, .ref (G.1 + h)), (1, .ref (G.1 + a1))] := hl
  refine lv_aload_n hx hb dX4_copyFrom_0 rfl (lv_at hl 0 rfl) ?_
  refine lv_aload_n hx hb dX4_copyFrom_1 rfl (lv_at hl 1 rfl) ?_
  refine mw_get (ci := 4) (v := .int (M a1 0)) (C := RX4) (T := TX4) (N := 2) hx hb ht inX4 hown hSt hP ka1 (by decide) (mk4 ka1) rfl 0 (by decide) (ht _ wf_RX4_7) rfl rfl dX4_copyFrom_2 ?_
  refine mw_put (ci := 4) (v := M a1 0) (ty := .int) (C := RX4) (T := TX4) (N := 2) hx hb ht inX4 tyX4 tyX4_ok nmX4 hown hSt hP hS kh (by decide) (mk4 kh) rfl 0 (by decide) (ht _ wf_RX4_7) rfl rfl (by decide +kernel) (vp_nar_int _) rfl (Nat.le_of_ble_eq_true rfl) (by rw [mk4 kh]; simp [mu]) dX4_copyFrom_5 (fun M_1 H locs eM_1 hP hS => ?_)
  have hw := hw M_1 eM_1
  refine lv_aload_n hx hb dX4_copyFrom_8 rfl (lv_at hl 0 rfl) ?_
  refine lv_aload_n hx hb dX4_copyFrom_9 rfl (lv_at hl 1 rfl) ?_
  refine mw_get (ci := 4) (v := .int (M_1 a1 1)) (C := RX4) (T := TX4) (N := 2) hx hb ht inX4 hown hSt hP ka1 (by decide) (mk4 ka1) rfl 1 (by decide) (ht _ wf_RX4_13) rfl rfl dX4_copyFrom_10 ?_
  refine mw_put (ci := 4) (v := M_1 a1 1) (ty := .int) (C := RX4) (T := TX4) (N := 2) hx hb ht inX4 tyX4 tyX4_ok nmX4 hown hSt hP hS kh (by decide) (mk4 kh) rfl 1 (by decide) (ht _ wf_RX4_13) rfl rfl (by decide +kernel) (vp_nar_int _) rfl (Nat.le_of_ble_eq_true rfl) (by rw [mk4 kh]; simp [mu]) dX4_copyFrom_13 (fun M_2 H locs eM_2 hP hS => ?_)
  have hw := hw M_2 eM_2
  exact W.vret hx hb hr (mw_end hP hSt hTb hS ⟨rfl, hw⟩) hS.2.2 dX4_copyFrom_16
def wp_X5_copyFrom (h : Nat) (a1 : Nat) (M : Mem) (Q : Mem → Prop) : Prop :=
  kdT h = 5 ∧ kdT a1 = 5 ∧ (∀ M_1, M_1 = mu M h 0 (M a1 0) → ∀ M_2, M_2 = mu M_1 h 1 (M_1 a1 1) → ∀ M_3, M_3 = mu M_2 h 2 (M_2 a1 2) → ∀ M_4, M_4 = mu M_3 h 3 (M_3 a1 3) → ∀ M_5, M_5 = mu M_4 h 4 (M_4 a1 4) → isb (M_5 a1 5) ∧ ∀ M_6, M_6 = mu M_5 h 5 (M_5 a1 5) → Q M_6)
set_option maxHeartbeats 4000000 in
set_option maxRecDepth 100000 in
theorem so_X5_copyFrom (l : Launch) (G : Gm) (h : Nat) (a1 : Nat) (M : Mem) (Q : Mem → Prop) (hw : wp_X5_copyFrom h a1 M Q) : Ct l G yX5_copyFrom cX5_copyFrom 2 none ({ frames := 0, cells := 0, slots := 0, locals := 0 } : Room) [.ref (G.1 + h), .ref (G.1 + a1)] M (Qv Q) := by
  unfold wp_X5_copyFrom at hw
  obtain ⟨kh, ka1, hw⟩ := hw
  refine ct_of (by decide) (Nat.le_of_ble_eq_true rfl) ?_
  intro p e s m below meth c E_ ls H hl hP hS
  obtain ⟨hx, hb, hml, hown, hts, ht, hr, hlocks, hSt, hTb⟩ := E_
  have hl : lv_has ls 2 [(0, .ref (G.1 + h)), (1, .ref (G.1 + a1))] := hl
  refine lv_aload_n hx hb dX5_copyFrom_0 rfl (lv_at hl 0 rfl) ?_
  refine lv_aload_n hx hb dX5_copyFrom_1 rfl (lv_at hl 1 rfl) ?_
  refine mw_get (ci := 5) (v := .int (M a1 0)) (C := RX5) (T := TX5) (N := 6) hx hb ht inX5 hown hSt hP ka1 (by decide) (mk5 ka1) rfl 0 (by decide) (ht _ wf_RX5_9) rfl rfl dX5_copyFrom_2 ?_
  refine mw_put (ci := 5) (v := M a1 0) (ty := .int) (C := RX5) (T := TX5) (N := 6) hx hb ht inX5 tyX5 tyX5_ok nmX5 hown hSt hP hS kh (by decide) (mk5 kh) rfl 0 (by decide) (ht _ wf_RX5_9) rfl rfl (by decide +kernel) (vp_nar_int _) rfl (Nat.le_of_ble_eq_true rfl) (by rw [mk5 kh]; simp [mu]) dX5_copyFrom_5 (fun M_1 H locs eM_1 hP hS => ?_)
  have hw := hw M_1 eM_1
  refine lv_aload_n hx hb dX5_copyFrom_8 rfl (lv_at hl 0 rfl) ?_
  refine lv_aload_n hx hb dX5_copyFrom_9 rfl (lv_at hl 1 rfl) ?_
  refine mw_get (ci := 5) (v := .int (M_1 a1 1)) (C := RX5) (T := TX5) (N := 6) hx hb ht inX5 hown hSt hP ka1 (by decide) (mk5 ka1) rfl 1 (by decide) (ht _ wf_RX5_15) rfl rfl dX5_copyFrom_10 ?_
  refine mw_put (ci := 5) (v := M_1 a1 1) (ty := .int) (C := RX5) (T := TX5) (N := 6) hx hb ht inX5 tyX5 tyX5_ok nmX5 hown hSt hP hS kh (by decide) (mk5 kh) rfl 1 (by decide) (ht _ wf_RX5_15) rfl rfl (by decide +kernel) (vp_nar_int _) rfl (Nat.le_of_ble_eq_true rfl) (by rw [mk5 kh]; simp [mu]) dX5_copyFrom_13 (fun M_2 H locs eM_2 hP hS => ?_)
  have hw := hw M_2 eM_2
  refine lv_aload_n hx hb dX5_copyFrom_16 rfl (lv_at hl 0 rfl) ?_
  refine lv_aload_n hx hb dX5_copyFrom_17 rfl (lv_at hl 1 rfl) ?_
  refine mw_get (ci := 5) (v := .int (M_2 a1 2)) (C := RX5) (T := TX5) (N := 6) hx hb ht inX5 hown hSt hP ka1 (by decide) (mk5 ka1) rfl 2 (by decide) (ht _ wf_RX5_18) rfl rfl dX5_copyFrom_18 ?_
  refine mw_put (ci := 5) (v := M_2 a1 2) (ty := .int) (C := RX5) (T := TX5) (N := 6) hx hb ht inX5 tyX5 tyX5_ok nmX5 hown hSt hP hS kh (by decide) (mk5 kh) rfl 2 (by decide) (ht _ wf_RX5_18) rfl rfl (by decide +kernel) (vp_nar_int _) rfl (Nat.le_of_ble_eq_true rfl) (by rw [mk5 kh]; simp [mu]) dX5_copyFrom_21 (fun M_3 H locs eM_3 hP hS => ?_)
  have hw := hw M_3 eM_3
  refine lv_aload_n hx hb dX5_copyFrom_24 rfl (lv_at hl 0 rfl) ?_
  refine lv_aload_n hx hb dX5_copyFrom_25 rfl (lv_at hl 1 rfl) ?_
  refine mw_get (ci := 5) (v := .int (M_3 a1 3)) (C := RX5) (T := TX5) (N := 6) hx hb ht inX5 hown hSt hP ka1 (by decide) (mk5 ka1) rfl 3 (by decide) (ht _ wf_RX5_21) rfl rfl dX5_copyFrom_26 ?_
  refine mw_put (ci := 5) (v := M_3 a1 3) (ty := .int) (C := RX5) (T := TX5) (N := 6) hx hb ht inX5 tyX5 tyX5_ok nmX5 hown hSt hP hS kh (by decide) (mk5 kh) rfl 3 (by decide) (ht _ wf_RX5_21) rfl rfl (by decide +kernel) (vp_nar_int _) rfl (Nat.le_of_ble_eq_true rfl) (by rw [mk5 kh]; simp [mu]) dX5_copyFrom_29 (fun M_4 H locs eM_4 hP hS => ?_)
  have hw := hw M_4 eM_4
  refine lv_aload_n hx hb dX5_copyFrom_32 rfl (lv_at hl 0 rfl) ?_
  refine lv_aload_n hx hb dX5_copyFrom_33 rfl (lv_at hl 1 rfl) ?_
  refine mw_get (ci := 5) (v := .int (M_4 a1 4)) (C := RX5) (T := TX5) (N := 6) hx hb ht inX5 hown hSt hP ka1 (by decide) (mk5 ka1) rfl 4 (by decide) (ht _ wf_RX5_24) rfl rfl dX5_copyFrom_34 ?_
  refine mw_put (ci := 5) (v := M_4 a1 4) (ty := .int) (C := RX5) (T := TX5) (N := 6) hx hb ht inX5 tyX5 tyX5_ok nmX5 hown hSt hP hS kh (by decide) (mk5 kh) rfl 4 (by decide) (ht _ wf_RX5_24) rfl rfl (by decide +kernel) (vp_nar_int _) rfl (Nat.le_of_ble_eq_true rfl) (by rw [mk5 kh]; simp [mu]) dX5_copyFrom_37 (fun M_5 H locs eM_5 hP hS => ?_)
  have hw := hw M_5 eM_5
  refine lv_aload_n hx hb dX5_copyFrom_40 rfl (lv_at hl 0 rfl) ?_
  refine lv_aload_n hx hb dX5_copyFrom_41 rfl (lv_at hl 1 rfl) ?_
  refine mw_get (ci := 5) (v := .int (M_5 a1 5)) (C := RX5) (T := TX5) (N := 6) hx hb ht inX5 hown hSt hP ka1 (by decide) (mk5 ka1) rfl 5 (by decide) (ht _ wf_RX5_27) rfl rfl dX5_copyFrom_42 ?_
  obtain ⟨c_7, hw⟩ := hw
  refine mw_put (ci := 5) (v := M_5 a1 5) (ty := .boolean) (C := RX5) (T := TX5) (N := 6) hx hb ht inX5 tyX5 tyX5_ok nmX5 hown hSt hP hS kh (by decide) (mk5 kh) rfl 5 (by decide) (ht _ wf_RX5_27) rfl rfl (by decide +kernel) c_7.narrow c_7.fits (Nat.le_of_ble_eq_true rfl) (by rw [mk5 kh]; simp [mu]) dX5_copyFrom_45 (fun M_6 H locs eM_6 hP hS => ?_)
  have hw := hw M_6 eM_6
  exact W.vret hx hb hr (mw_end hP hSt hTb hS ⟨rfl, hw⟩) hS.2.2 dX5_copyFrom_48
def wp_X6_isMissing (h : Nat) (M : Mem) (Q : Int32 → Mem → Prop) : Prop :=
  kdT h = 6 ∧ ((¬ (M h 1) = 0 → Q 0 M) ∧ ((M h 1) = 0 → Q 1 M))
set_option maxHeartbeats 4000000 in
set_option maxRecDepth 100000 in
theorem so_X6_isMissing (l : Launch) (G : Gm) (h : Nat) (M : Mem) (Q : Int32 → Mem → Prop) (hw : wp_X6_isMissing h M Q) : Ct l G yX6_isMissing cX6_isMissing 1 (some .boolean) ({ frames := 0, cells := 0, slots := 0, locals := 0 } : Room) [.ref (G.1 + h)] M (Qi Q) := by
  unfold wp_X6_isMissing at hw
  obtain ⟨kh, hw⟩ := hw
  refine ct_of (by decide) (Nat.le_of_ble_eq_true rfl) ?_
  intro p e s m below meth c E_ ls H hl hP hS
  obtain ⟨hx, hb, hml, hown, hts, ht, hr, hlocks, hSt, hTb⟩ := E_
  have hl : lv_has ls 1 [(0, .ref (G.1 + h))] := hl
  refine lv_aload_n hx hb dX6_isMissing_0 rfl (lv_at hl 0 rfl) ?_
  refine mw_get (ci := 6) (v := .int (M h 1)) (C := RX6) (T := TX6) (N := 2) hx hb ht inX6 hown hSt hP kh (by decide) (mk6 kh) rfl 1 (by decide) (ht _ wf_RX6_20) rfl rfl dX6_isMissing_1 ?_
  refine lv_if_ne (tgt := 11) hx hb dX6_isMissing_4 (by decide) (fun c_1 => ?_) (fun c_1 => ?_)
  · have hw := hw.1 c_1
    refine lv_iconst (v := 0) hx hb dX6_isMissing_11 (by decide) ?_
    exact W.zret (v := 0) hx hb hr (by decide) (mw_end hP hSt hTb hS ⟨_, rfl, hw⟩) hS.2.2 dX6_isMissing_12
  · have hw := hw.2 c_1
    refine lv_iconst (v := 1) hx hb dX6_isMissing_7 (by decide) ?_
    refine lv_goto (tgt := 12) hx hb dX6_isMissing_8 (by decide) ?_
    exact W.zret (v := 1) hx hb hr (by decide) (mw_end hP hSt hTb hS ⟨_, rfl, hw⟩) hS.2.2 dX6_isMissing_12
def B_X3_fillWithZeros_19 (h : Nat) (Q : Mem → Prop) (K19 : Int32 → Mem → Prop) (v2 : Int32) (M : Mem) : Prop :=
  ((M h 1) ≤ v2 → Q M) ∧ (¬ (M h 1) ≤ v2 → vp_in v2 (lnT (h + 1)) ∧ ∀ M_3, M_3 = mu M (h + 1) v2.toNatClampNeg 0 → ∀ x_4 : Int32, x_4 = v2 + 1 → K19 x_4 M_3)
def l_X3_fillWithZeros_19 (h : Nat) (Q : Mem → Prop) : Nat → Int32 → Mem → Prop
  | 0 => fun _ _ => False
  | n + 1 => B_X3_fillWithZeros_19 h Q (l_X3_fillWithZeros_19 h Q n)
def wp_X3_fillWithZeros (h : Nat) (a1 : Int32) (M : Mem) (Q : Mem → Prop) : Prop :=
  kdT h = 3 ∧ (∀ M_5, M_5 = mu M h 1 (imx (0 : Int32) (imn a1 (nI (lnT (h + 1))))) → ∃ n, l_X3_fillWithZeros_19 h Q n 0 M_5)
set_option maxHeartbeats 4000000 in
set_option maxRecDepth 100000 in
theorem so_X3_fillWithZeros (l : Launch) (G : Gm) (h : Nat) (a1 : Int32) (M : Mem) (Q : Mem → Prop) (hw : wp_X3_fillWithZeros h a1 M Q) : Ct l G yX3_fillWithZeros cX3_fillWithZeros 3 none ({ frames := 1, cells := 0, slots := 0, locals := 60 } : Room) [.ref (G.1 + h), .int a1] M (Qv Q) := by
  unfold wp_X3_fillWithZeros at hw
  obtain ⟨kh, hw⟩ := hw
  refine ct_of (by decide) (Nat.le_of_ble_eq_true rfl) ?_
  intro p e s m below meth c E_ ls H hl hP hS
  obtain ⟨hx, hb, hml, hown, hts, ht, hr, hlocks, hSt, hTb⟩ := E_
  have hl : lv_has ls 3 [(0, .ref (G.1 + h)), (1, .int a1)] := hl
  have L_19 : ∀ (n19 : Nat) (v2 : Int32) (M : Mem) (H : Heap) (locs : List Loc) (ls : Array Slot), l_X3_fillWithZeros_19 h Q n19 v2 M → va_P G.2.1 clsA (wl G M) H → va_S (inW G) s.heap H locs → lv_has ls 3 [(0, .ref (G.1 + h)), (2, .int v2)] → W p l e ({ frames := 1, cells := 0, slots := 0, locals := 60 } : Room) s m ([.ref (G.1 + h), .int a1] : List Value).toArray below meth c H locs 0 0 (MQ below (Pq G (Qv Q)) ([.ref (G.1 + h), .int a1] : List Value).toArray s 0 0 (inW G)) (F0 m 19 ls []) := by
    intro   n19
    induction n19 with
    | zero => intro v2 M H locs ls  hw hP hS hl; exact False.elim hw
    | succ n19 ih19 =>
      intro v2 M H locs ls  hw hP hS hl
      have hw : B_X3_fillWithZeros_19 h Q (l_X3_fillWithZeros_19 h Q n19) v2 M := hw
      unfold B_X3_fillWithZeros_19 at hw
      refine lv_iload_n hx hb dX3_fillWithZeros_19 rfl (lv_at hl 1 rfl) ?_
      refine lv_aload_n hx hb dX3_fillWithZeros_20 rfl (lv_at hl 0 rfl) ?_
      refine mw_get (ci := 3) (v := .int (M h 1)) (C := RX3) (T := TX3) (N := 2) hx hb ht inX3 hown hSt hP kh (by decide) (mk3 kh) rfl 1 (by decide) (ht _ wf_RX3_19) rfl rfl dX3_fillWithZeros_21 ?_
      refine lv_icmp_ge (tgt := 40) hx hb dX3_fillWithZeros_24 (by decide) (fun c_1 => ?_) (fun c_1 => ?_)
      · have hw := hw.1 c_1
        exact W.vret hx hb hr (mw_end hP hSt hTb hS ⟨rfl, hw⟩) hS.2.2 dX3_fillWithZeros_40
      · have hw := hw.2 c_1
        refine lv_aload_n hx hb dX3_fillWithZeros_27 rfl (lv_at hl 0 rfl) ?_
        refine mw_get (ci := 3) (v := .ref (G.1 + (h + 1))) (C := RX3) (T := TX3) (N := 2) hx hb ht inX3 hown hSt hP kh (by decide) (mk3 kh) rfl 0 (by decide) (ht _ wf_RX3_13) rfl rfl dX3_fillWithZeros_28 ?_
        refine lv_iload_n hx hb dX3_fillWithZeros_31 rfl (lv_at hl 1 rfl) ?_
        refine lv_iconst (v := 0) hx hb dX3_fillWithZeros_32 (by decide) ?_
        obtain ⟨c_2, hw⟩ := hw
        refine mw_iast hx hb hSt hP hS (ks3_0 kh) c_2 dX3_fillWithZeros_33 (fun M_3 H locs eM_3 hP hS => ?_)
        have hw := hw M_3 eM_3
        obtain ⟨x_4, ex_4⟩ : ∃ z : Int32, z = v2 + 1 := ⟨_, rfl⟩
        have hw := hw x_4 ex_4
        refine lv_iinc (v := x_4) (lv' := [(2, .int x_4), (0, .ref (G.1 + h))]) hx hb dX3_fillWithZeros_34 hl (k := 1) rfl (by rw [ex_4]; rfl) (by decide) rfl (fun ls hl => ?_)
        refine lv_goto (tgt := 19) hx hb dX3_fillWithZeros_37 (by decide) ?_
        exact ih19 x_4 M_3 _ _ _ hw hP hS (lv_sub hl [1, 0] rfl)
  refine lv_aload_n hx hb dX3_fillWithZeros_0 rfl (lv_at hl 0 rfl) ?_
  refine lv_iconst (v := 0) hx hb dX3_fillWithZeros_1 (by decide) ?_
  refine lv_iload_n hx hb dX3_fillWithZeros_2 rfl (lv_at hl 1 rfl) ?_
  refine lv_aload_n hx hb dX3_fillWithZeros_3 rfl (lv_at hl 0 rfl) ?_
  refine mw_get (ci := 3) (v := .ref (G.1 + (h + 1))) (C := RX3) (T := TX3) (N := 2) hx hb ht inX3 hown hSt hP kh (by decide) (mk3 kh) rfl 0 (by decide) (ht _ wf_RX3_13) rfl rfl dX3_fillWithZeros_4 ?_
  refine mw_alen hx hb hSt hP (ks3_0 kh) dX3_fillWithZeros_7 ?_
  refine va_mmin (rest := [.int 0, .ref (G.1 + h)]) hx hb (hml.trans hl.1.symm) hown (ht _ wm_RX3_37) (ht _ wt_yJ9_min_7cf53) (ht _ wn_RJ9) (ht _ wc_yJ9_min_7cf53) (Nat.le_of_ble_eq_true rfl) (Nat.le_of_ble_eq_true rfl) (Nat.zero_le _) (Nat.zero_le _) dX3_fillWithZeros_8 ?_
  refine va_mmax (rest := [.ref (G.1 + h)]) hx hb (hml.trans hl.1.symm) hown (ht _ wm_RX3_7) (ht _ wt_yJ9_max_7cf53) (ht _ wn_RJ9) (ht _ wc_yJ9_max_7cf53) (Nat.le_of_ble_eq_true rfl) (Nat.le_of_ble_eq_true rfl) (Nat.zero_le _) (Nat.zero_le _) dX3_fillWithZeros_11 ?_
  refine mw_put (ci := 3) (v := imx (0 : Int32) (imn a1 (nI (lnT (h + 1))))) (ty := .int) (C := RX3) (T := TX3) (N := 2) hx hb ht inX3 tyX3 tyX3_ok nmX3 hown hSt hP hS kh (by decide) (mk3 kh) rfl 1 (by decide) (ht _ wf_RX3_19) rfl rfl (by decide +kernel) (vp_nar_int _) rfl (Nat.le_of_ble_eq_true rfl) (by rw [mk3 kh]; simp [mu]) dX3_fillWithZeros_14 (fun M_5 H locs eM_5 hP hS => ?_)
  have hw := hw M_5 eM_5
  refine lv_iconst (v := 0) hx hb dX3_fillWithZeros_17 (by decide) ?_
  refine lv_istore_n (lv' := [(2, .int 0), (0, .ref (G.1 + h)), (1, .int a1)]) hx hb dX3_fillWithZeros_18 rfl hl (by decide) rfl (fun ls hl => ?_)
  obtain ⟨n_, hw⟩ := hw
  exact L_19 n_ 0 M_5 _ _ _ hw hP hS (lv_sub hl [1, 0] rfl)
def wp_X6_begin (h : Nat) (a1 : Int32) (a2 : Int32) (M : Mem) (Q : Mem → Prop) : Prop :=
  kdT h = 6 ∧ (∀ M_1, M_1 = mu M h 1 a1 → wp_X3_fillWithZeros (h + 1) a2 M_1 (fun M_2 => Q M_2))
set_option maxHeartbeats 4000000 in
set_option maxRecDepth 100000 in
theorem so_X6_begin (l : Launch) (G : Gm) (h : Nat) (a1 : Int32) (a2 : Int32) (M : Mem) (Q : Mem → Prop) (hw : wp_X6_begin h a1 a2 M Q) : Ct l G yX6_begin cX6_begin 3 none ({ frames := 2, cells := 0, slots := 0, locals := 82 } : Room) [.ref (G.1 + h), .int a1, .int a2] M (Qv Q) := by
  unfold wp_X6_begin at hw
  obtain ⟨kh, hw⟩ := hw
  refine ct_of (by decide) (Nat.le_of_ble_eq_true rfl) ?_
  intro p e s m below meth c E_ ls H hl hP hS
  obtain ⟨hx, hb, hml, hown, hts, ht, hr, hlocks, hSt, hTb⟩ := E_
  have hl : lv_has ls 3 [(0, .ref (G.1 + h)), (1, .int a1), (2, .int a2)] := hl
  refine lv_aload_n hx hb dX6_begin_0 rfl (lv_at hl 0 rfl) ?_
  refine lv_iload_n hx hb dX6_begin_1 rfl (lv_at hl 1 rfl) ?_
  refine mw_put (ci := 6) (v := a1) (ty := .int) (C := RX6) (T := TX6) (N := 2) hx hb ht inX6 tyX6 tyX6_ok nmX6 hown hSt hP hS kh (by decide) (mk6 kh) rfl 1 (by decide) (ht _ wf_RX6_20) rfl rfl (by decide +kernel) (vp_nar_int _) rfl (Nat.le_of_ble_eq_true rfl) (by rw [mk6 kh]; simp [mu]) dX6_begin_2 (fun M_1 H locs eM_1 hP hS => ?_)
  have hw := hw M_1 eM_1
  refine lv_aload_n hx hb dX6_begin_5 rfl (lv_at hl 0 rfl) ?_
  refine mw_get (ci := 6) (v := .ref (G.1 + (h + 1))) (C := RX6) (T := TX6) (N := 2) hx hb ht inX6 hown hSt hP kh (by decide) (mk6 kh) rfl 0 (by decide) (ht _ wf_RX6_14) rfl rfl dX6_begin_6 ?_
  refine lv_iload_n hx hb dX6_begin_9 rfl (lv_at hl 2 rfl) ?_
  refine mw_V (As := [.int a2]) (rest := []) (T := TX3) (N := 2) (n := 1) ⟨hx, hb, hml, hown, hts⟩ (so_X3_fillWithZeros l G (h + 1) a2 M_1 _ hw) wm_RX6_24 wi_yX3_fillWithZeros wv_yX3_fillWithZeros wn_RX3 wc_yX3_fillWithZeros (by decide) ⟨Nat.le_of_ble_eq_true rfl, Nat.le_of_ble_eq_true rfl⟩ ⟨rfl, rfl⟩ (ks6_0 kh) (by decide) (mk3 (ks6_0 kh)) rfl hSt hTb hP hS rfl hl.1 rfl (Nat.le_of_ble_eq_true rfl) dX6_begin_10 ⟨Nat.le_refl 0, Nat.le_refl 0⟩ (fun rr_ M_2 H locs hq hP hS => ?_)
  obtain ⟨rfl, hw⟩ := hq
  exact W.vret hx hb hr (mw_end hP hSt hTb hS ⟨rfl, hw⟩) hS.2.2 dX6_begin_13
def wp_X3_replace (h : Nat) (a1 : Int32) (a2 : Int32) (M : Mem) (Q : Mem → Prop) : Prop :=
  kdT h = 3 ∧ (wp_X3_holds h a1 M (fun r_2 M_1 => (r_2 = 0 → Q M_1) ∧ (¬ r_2 = 0 → vp_in a1 (lnT (h + 1)) ∧ ∀ M_5, M_5 = mu M_1 (h + 1) a1.toNatClampNeg a2 → Q M_5)))
set_option maxHeartbeats 4000000 in
set_option maxRecDepth 100000 in
theorem so_X3_replace (l : Launch) (G : Gm) (h : Nat) (a1 : Int32) (a2 : Int32) (M : Mem) (Q : Mem → Prop) (hw : wp_X3_replace h a1 a2 M Q) : Ct l G yX3_replace cX3_replace 3 none ({ frames := 1, cells := 0, slots := 0, locals := 21 } : Room) [.ref (G.1 + h), .int a1, .int a2] M (Qv Q) := by
  unfold wp_X3_replace at hw
  obtain ⟨kh, hw⟩ := hw
  refine ct_of (by decide) (Nat.le_of_ble_eq_true rfl) ?_
  intro p e s m below meth c E_ ls H hl hP hS
  obtain ⟨hx, hb, hml, hown, hts, ht, hr, hlocks, hSt, hTb⟩ := E_
  have hl : lv_has ls 3 [(0, .ref (G.1 + h)), (1, .int a1), (2, .int a2)] := hl
  refine lv_aload_n hx hb dX3_replace_0 rfl (lv_at hl 0 rfl) ?_
  refine lv_iload_n hx hb dX3_replace_1 rfl (lv_at hl 1 rfl) ?_
  refine mw_V (As := [.int a1]) (rest := []) (T := TX3) (N := 2) (n := 1) ⟨hx, hb, hml, hown, hts⟩ (so_X3_holds l G h a1 M _ hw) wm_RX3_23 wi_yX3_holds wv_yX3_holds wn_RX3 wc_yX3_holds (by decide) ⟨Nat.le_of_ble_eq_true rfl, Nat.le_of_ble_eq_true rfl⟩ ⟨rfl, rfl⟩ kh (by decide) (mk3 kh) rfl hSt hTb hP hS rfl hl.1 rfl (Nat.le_of_ble_eq_true rfl) dX3_replace_2 ⟨Nat.le_refl 0, Nat.le_refl 0⟩ (fun rr_ M_1 H locs hq hP hS => ?_)
  obtain ⟨r_2, rfl, hw⟩ := hq
  refine lv_if_eq (tgt := 15) hx hb dX3_replace_5 (by decide) (fun c_3 => ?_) (fun c_3 => ?_)
  · have hw := hw.1 c_3
    exact W.vret hx hb hr (mw_end hP hSt hTb hS ⟨rfl, hw⟩) hS.2.2 dX3_replace_15
  · have hw := hw.2 c_3
    refine lv_aload_n hx hb dX3_replace_8 rfl (lv_at hl 0 rfl) ?_
    refine mw_get (ci := 3) (v := .ref (G.1 + (h + 1))) (C := RX3) (T := TX3) (N := 2) hx hb ht inX3 hown hSt hP kh (by decide) (mk3 kh) rfl 0 (by decide) (ht _ wf_RX3_13) rfl rfl dX3_replace_9 ?_
    refine lv_iload_n hx hb dX3_replace_12 rfl (lv_at hl 1 rfl) ?_
    refine lv_iload_n hx hb dX3_replace_13 rfl (lv_at hl 2 rfl) ?_
    obtain ⟨c_4, hw⟩ := hw
    refine mw_iast hx hb hSt hP hS (ks3_0 kh) c_4 dX3_replace_14 (fun M_5 H locs eM_5 hP hS => ?_)
    have hw := hw M_5 eM_5
    exact W.vret hx hb hr (mw_end hP hSt hTb hS ⟨rfl, hw⟩) hS.2.2 dX3_replace_15
def wp_X6_lowestBits (h : Nat) (a1 : Int32) (M : Mem) (Q : Int32 → Mem → Prop) : Prop :=
  kdT h = 6 ∧ (((M h 1) = 8 → Q a1.toInt8.toInt32 M) ∧ ((M h 1) = 16 → Q a1.toInt16.toInt32 M) ∧ (¬ (M h 1) = 8 → ¬ (M h 1) = 16 → Q a1 M))
set_option maxHeartbeats 4000000 in
set_option maxRecDepth 100000 in
theorem so_X6_lowestBits (l : Launch) (G : Gm) (h : Nat) (a1 : Int32) (M : Mem) (Q : Int32 → Mem → Prop) (hw : wp_X6_lowestBits h a1 M Q) : Ct l G yX6_lowestBits cX6_lowestBits 2 (some .int) ({ frames := 0, cells := 0, slots := 0, locals := 0 } : Room) [.ref (G.1 + h), .int a1] M (Qi Q) := by
  unfold wp_X6_lowestBits at hw
  obtain ⟨kh, hw⟩ := hw
  refine ct_of (by decide) (Nat.le_of_ble_eq_true rfl) ?_
  intro p e s m below meth c E_ ls H hl hP hS
  obtain ⟨hx, hb, hml, hown, hts, ht, hr, hlocks, hSt, hTb⟩ := E_
  have hl : lv_has ls 2 [(0, .ref (G.1 + h)), (1, .int a1)] := hl
  refine lv_aload_n hx hb dX6_lowestBits_0 rfl (lv_at hl 0 rfl) ?_
  refine mw_get (ci := 6) (v := .int (M h 1)) (C := RX6) (T := TX6) (N := 2) hx hb ht inX6 hown hSt hP kh (by decide) (mk6 kh) rfl 1 (by decide) (ht _ wf_RX6_20) rfl rfl dX6_lowestBits_1 ?_
  by_cases c_1 : (M h 1) = 8
  · have hw := hw.1 c_1
    refine mw_lcase (tgt := 32) (off := 28) hx hb dX6_lowestBits_4 c_1 (by decide) (by decide) ?_
    refine lv_iload_n hx hb dX6_lowestBits_32 rfl (lv_at hl 1 rfl) ?_
    refine lv_i2b (v := a1.toInt8.toInt32) hx hb dX6_lowestBits_33 rfl ?_
    exact W.iret hx hb hr (mw_end hP hSt hTb hS ⟨_, rfl, hw⟩) hS.2.2 dX6_lowestBits_34
  by_cases c_2 : (M h 1) = 16
  · have hw := hw.2.1 c_2
    refine mw_lcase (tgt := 35) (off := 31) hx hb dX6_lowestBits_4 c_2 (by decide) (by decide) ?_
    refine lv_iload_n hx hb dX6_lowestBits_35 rfl (lv_at hl 1 rfl) ?_
    refine lv_i2s (v := a1.toInt16.toInt32) hx hb dX6_lowestBits_36 rfl ?_
    exact W.iret hx hb hr (mw_end hP hSt hTb hS ⟨_, rfl, hw⟩) hS.2.2 dX6_lowestBits_37
  have hw := hw.2.2 c_1 c_2
  refine mw_ldef (keys := [8, 16]) (tgt := 38) hx hb dX6_lowestBits_4 (List.forall_mem_cons.mpr ⟨c_1, (List.forall_mem_cons.mpr ⟨c_2, (fun _ h_ => absurd h_ List.not_mem_nil)⟩)⟩) (by decide) (by decide) (by decide) ?_
  refine lv_iload_n hx hb dX6_lowestBits_38 rfl (lv_at hl 1 rfl) ?_
  exact W.iret hx hb hr (mw_end hP hSt hTb hS ⟨_, rfl, hw⟩) hS.2.2 dX6_lowestBits_39
def wp_X3_holdsRun (h : Nat) (a1 : Int32) (a2 : Int32) (M : Mem) (Q : Int32 → Mem → Prop) : Prop :=
  kdT h = 3 ∧ ((a2 < 0 → Q 0 M) ∧ (¬ a2 < 0 → ((M h 1) < a2 → Q 0 M) ∧ (¬ (M h 1) < a2 → (a1 < 0 → Q 0 M) ∧ (¬ a1 < 0 → (((M h 1) - a2) < a1 → Q 0 M) ∧ (¬ ((M h 1) - a2) < a1 → Q 1 M)))))
set_option maxHeartbeats 4000000 in
set_option maxRecDepth 100000 in
theorem so_X3_holdsRun (l : Launch) (G : Gm) (h : Nat) (a1 : Int32) (a2 : Int32) (M : Mem) (Q : Int32 → Mem → Prop) (hw : wp_X3_holdsRun h a1 a2 M Q) : Ct l G yX3_holdsRun cX3_holdsRun 3 (some .boolean) ({ frames := 0, cells := 0, slots := 0, locals := 0 } : Room) [.ref (G.1 + h), .int a1, .int a2] M (Qi Q) := by
  unfold wp_X3_holdsRun at hw
  obtain ⟨kh, hw⟩ := hw
  refine ct_of (by decide) (Nat.le_of_ble_eq_true rfl) ?_
  intro p e s m below meth c E_ ls H hl hP hS
  obtain ⟨hx, hb, hml, hown, hts, ht, hr, hlocks, hSt, hTb⟩ := E_
  have hl : lv_has ls 3 [(0, .ref (G.1 + h)), (1, .int a1), (2, .int a2)] := hl
  refine lv_iload_n hx hb dX3_holdsRun_0 rfl (lv_at hl 2 rfl) ?_
  refine lv_if_lt (tgt := 30) hx hb dX3_holdsRun_1 (by decide) (fun c_1 => ?_) (fun c_1 => ?_)
  · have hw := hw.1 c_1
    refine lv_iconst (v := 0) hx hb dX3_holdsRun_30 (by decide) ?_
    exact W.zret (v := 0) hx hb hr (by decide) (mw_end hP hSt hTb hS ⟨_, rfl, hw⟩) hS.2.2 dX3_holdsRun_31
  · have hw := hw.2 c_1
    refine lv_iload_n hx hb dX3_holdsRun_4 rfl (lv_at hl 2 rfl) ?_
    refine lv_aload_n hx hb dX3_holdsRun_5 rfl (lv_at hl 0 rfl) ?_
    refine mw_get (ci := 3) (v := .int (M h 1)) (C := RX3) (T := TX3) (N := 2) hx hb ht inX3 hown hSt hP kh (by decide) (mk3 kh) rfl 1 (by decide) (ht _ wf_RX3_19) rfl rfl dX3_holdsRun_6 ?_
    refine lv_icmp_gt (tgt := 30) hx hb dX3_holdsRun_9 (by decide) (fun c_2 => ?_) (fun c_2 => ?_)
    · have hw := hw.1 c_2
      refine lv_iconst (v := 0) hx hb dX3_holdsRun_30 (by decide) ?_
      exact W.zret (v := 0) hx hb hr (by decide) (mw_end hP hSt hTb hS ⟨_, rfl, hw⟩) hS.2.2 dX3_holdsRun_31
    · have hw := hw.2 c_2
      refine lv_iload_n hx hb dX3_holdsRun_12 rfl (lv_at hl 1 rfl) ?_
      refine lv_if_lt (tgt := 30) hx hb dX3_holdsRun_13 (by decide) (fun c_3 => ?_) (fun c_3 => ?_)
      · have hw := hw.1 c_3
        refine lv_iconst (v := 0) hx hb dX3_holdsRun_30 (by decide) ?_
        exact W.zret (v := 0) hx hb hr (by decide) (mw_end hP hSt hTb hS ⟨_, rfl, hw⟩) hS.2.2 dX3_holdsRun_31
      · have hw := hw.2 c_3
        refine lv_iload_n hx hb dX3_holdsRun_16 rfl (lv_at hl 1 rfl) ?_
        refine lv_aload_n hx hb dX3_holdsRun_17 rfl (lv_at hl 0 rfl) ?_
        refine mw_get (ci := 3) (v := .int (M h 1)) (C := RX3) (T := TX3) (N := 2) hx hb ht inX3 hown hSt hP kh (by decide) (mk3 kh) rfl 1 (by decide) (ht _ wf_RX3_19) rfl rfl dX3_holdsRun_18 ?_
        refine lv_iload_n hx hb dX3_holdsRun_21 rfl (lv_at hl 2 rfl) ?_
        refine lv_isub hx hb dX3_holdsRun_22 ?_
        refine lv_icmp_gt (tgt := 30) hx hb dX3_holdsRun_23 (by decide) (fun c_4 => ?_) (fun c_4 => ?_)
        · have hw := hw.1 c_4
          refine lv_iconst (v := 0) hx hb dX3_holdsRun_30 (by decide) ?_
          exact W.zret (v := 0) hx hb hr (by decide) (mw_end hP hSt hTb hS ⟨_, rfl, hw⟩) hS.2.2 dX3_holdsRun_31
        · have hw := hw.2 c_4
          refine lv_iconst (v := 1) hx hb dX3_holdsRun_26 (by decide) ?_
          refine lv_goto (tgt := 31) hx hb dX3_holdsRun_27 (by decide) ?_
          exact W.zret (v := 1) hx hb hr (by decide) (mw_end hP hSt hTb hS ⟨_, rfl, hw⟩) hS.2.2 dX3_holdsRun_31
def wp_X3_replaceRun (h : Nat) (a1 : Int32) (a2 : Nat) (a3 : Int32) (a4 : Int32) (M : Mem) (Q : Mem → Prop) : Prop :=
  kdT h = 3 ∧ kdT a2 = 3 ∧ (wp_X3_holdsRun h a1 a4 M (fun r_2 M_1 => (r_2 = 0 → Q M_1) ∧ (¬ r_2 = 0 → wp_X3_holdsRun a2 a3 a4 M_1 (fun r_5 M_4 => (r_5 = 0 → Q M_4) ∧ (¬ r_5 = 0 → (¬ a3 < 0 ∧ ¬ a1 < 0 ∧ ¬ a4 < 0 ∧ a3.toNatClampNeg + a4.toNatClampNeg ≤ lnT (a2 + 1) ∧ a1.toNatClampNeg + a4.toNatClampNeg ≤ lnT (h + 1)) ∧ ∀ M_8, M_8 = mcp M_4 (a2 + 1) a3.toNatClampNeg (h + 1) a1.toNatClampNeg a4.toNatClampNeg → Q M_8)))))
set_option maxHeartbeats 4000000 in
set_option maxRecDepth 100000 in
theorem so_X3_replaceRun (l : Launch) (G : Gm) (h : Nat) (a1 : Int32) (a2 : Nat) (a3 : Int32) (a4 : Int32) (M : Mem) (Q : Mem → Prop) (hw : wp_X3_replaceRun h a1 a2 a3 a4 M Q) : Ct l G yX3_replaceRun cX3_replaceRun 5 none ({ frames := 1, cells := 0, slots := 0, locals := 60 } : Room) [.ref (G.1 + h), .int a1, .ref (G.1 + a2), .int a3, .int a4] M (Qv Q) := by
  unfold wp_X3_replaceRun at hw
  obtain ⟨kh, ka2, hw⟩ := hw
  refine ct_of (by decide) (Nat.le_of_ble_eq_true rfl) ?_
  intro p e s m below meth c E_ ls H hl hP hS
  obtain ⟨hx, hb, hml, hown, hts, ht, hr, hlocks, hSt, hTb⟩ := E_
  have hl : lv_has ls 5 [(0, .ref (G.1 + h)), (1, .int a1), (2, .ref (G.1 + a2)), (3, .int a3), (4, .int a4)] := hl
  refine lv_aload_n hx hb dX3_replaceRun_0 rfl (lv_at hl 0 rfl) ?_
  refine lv_iload_n hx hb dX3_replaceRun_1 rfl (lv_at hl 1 rfl) ?_
  refine lv_iload hx hb dX3_replaceRun_2 (lv_at hl 4 rfl) ?_
  refine mw_V (As := [.int a1, .int a4]) (rest := []) (T := TX3) (N := 2) (n := 2) ⟨hx, hb, hml, hown, hts⟩ (so_X3_holdsRun l G h a1 a4 M _ hw) wm_RX3_27 wi_yX3_holdsRun wv_yX3_holdsRun wn_RX3 wc_yX3_holdsRun (by decide) ⟨Nat.le_of_ble_eq_true rfl, Nat.le_of_ble_eq_true rfl⟩ ⟨rfl, rfl⟩ kh (by decide) (mk3 kh) rfl hSt hTb hP hS rfl hl.1 rfl (Nat.le_of_ble_eq_true rfl) dX3_replaceRun_4 ⟨Nat.le_refl 0, Nat.le_refl 0⟩ (fun rr_ M_1 H locs hq hP hS => ?_)
  obtain ⟨r_2, rfl, hw⟩ := hq
  refine lv_if_eq (tgt := 35) hx hb dX3_replaceRun_7 (by decide) (fun c_3 => ?_) (fun c_3 => ?_)
  · have hw := hw.1 c_3
    exact W.vret hx hb hr (mw_end hP hSt hTb hS ⟨rfl, hw⟩) hS.2.2 dX3_replaceRun_35
  · have hw := hw.2 c_3
    refine lv_aload_n hx hb dX3_replaceRun_10 rfl (lv_at hl 2 rfl) ?_
    refine lv_iload_n hx hb dX3_replaceRun_11 rfl (lv_at hl 3 rfl) ?_
    refine lv_iload hx hb dX3_replaceRun_12 (lv_at hl 4 rfl) ?_
    refine mw_V (As := [.int a3, .int a4]) (rest := []) (T := TX3) (N := 2) (n := 2) ⟨hx, hb, hml, hown, hts⟩ (so_X3_holdsRun l G a2 a3 a4 M_1 _ hw) wm_RX3_27 wi_yX3_holdsRun wv_yX3_holdsRun wn_RX3 wc_yX3_holdsRun (by decide) ⟨Nat.le_of_ble_eq_true rfl, Nat.le_of_ble_eq_true rfl⟩ ⟨rfl, rfl⟩ ka2 (by decide) (mk3 ka2) rfl hSt hTb hP hS rfl hl.1 rfl (Nat.le_of_ble_eq_true rfl) dX3_replaceRun_14 ⟨Nat.le_refl 0, Nat.le_refl 0⟩ (fun rr_ M_4 H locs hq hP hS => ?_)
    obtain ⟨r_5, rfl, hw⟩ := hq
    refine lv_if_eq (tgt := 35) hx hb dX3_replaceRun_17 (by decide) (fun c_6 => ?_) (fun c_6 => ?_)
    · have hw := hw.1 c_6
      exact W.vret hx hb hr (mw_end hP hSt hTb hS ⟨rfl, hw⟩) hS.2.2 dX3_replaceRun_35
    · have hw := hw.2 c_6
      refine lv_aload_n hx hb dX3_replaceRun_20 rfl (lv_at hl 2 rfl) ?_
      refine mw_get (ci := 3) (v := .ref (G.1 + (a2 + 1))) (C := RX3) (T := TX3) (N := 2) hx hb ht inX3 hown hSt hP ka2 (by decide) (mk3 ka2) rfl 0 (by decide) (ht _ wf_RX3_13) rfl rfl dX3_replaceRun_21 ?_
      refine lv_iload_n hx hb dX3_replaceRun_24 rfl (lv_at hl 3 rfl) ?_
      refine lv_aload_n hx hb dX3_replaceRun_25 rfl (lv_at hl 0 rfl) ?_
      refine mw_get (ci := 3) (v := .ref (G.1 + (h + 1))) (C := RX3) (T := TX3) (N := 2) hx hb ht inX3 hown hSt hP kh (by decide) (mk3 kh) rfl 0 (by decide) (ht _ wf_RX3_13) rfl rfl dX3_replaceRun_26 ?_
      refine lv_iload_n hx hb dX3_replaceRun_29 rfl (lv_at hl 1 rfl) ?_
      refine lv_iload hx hb dX3_replaceRun_30 (lv_at hl 4 rfl) ?_
      obtain ⟨c_7, hw⟩ := hw
      refine mw_copy hx hb (hml.trans hl.1.symm) hown (ht _ wm_RX3_31) (ht _ wna_arraycopy) (ht _ wt_arraycopy) (ht _ wn_RJ10) hSt hP hS (ks3_0 ka2) (ks3_0 kh) c_7 (Nat.le_of_ble_eq_true rfl) (Nat.le_of_ble_eq_true rfl) dX3_replaceRun_32 (fun M_8 H locs eM_8 hP hS => ?_)
      have hw := hw M_8 eM_8
      exact W.vret hx hb hr (mw_end hP hSt hTb hS ⟨rfl, hw⟩) hS.2.2 dX3_replaceRun_35
def wp_X5_isLost (h : Nat) (M : Mem) (Q : Int32 → Mem → Prop) : Prop :=
  kdT h = 5 ∧ ((¬ (M h 5) = 0 → Q 0 M) ∧ ((M h 5) = 0 → (¬ (M h 3) = 0 → Q 0 M) ∧ ((M h 3) = 0 → Q 1 M)))
set_option maxHeartbeats 4000000 in
set_option maxRecDepth 100000 in
theorem so_X5_isLost (l : Launch) (G : Gm) (h : Nat) (M : Mem) (Q : Int32 → Mem → Prop) (hw : wp_X5_isLost h M Q) : Ct l G yX5_isLost cX5_isLost 1 (some .boolean) ({ frames := 0, cells := 0, slots := 0, locals := 0 } : Room) [.ref (G.1 + h)] M (Qi Q) := by
  unfold wp_X5_isLost at hw
  obtain ⟨kh, hw⟩ := hw
  refine ct_of (by decide) (Nat.le_of_ble_eq_true rfl) ?_
  intro p e s m below meth c E_ ls H hl hP hS
  obtain ⟨hx, hb, hml, hown, hts, ht, hr, hlocks, hSt, hTb⟩ := E_
  have hl : lv_has ls 1 [(0, .ref (G.1 + h))] := hl
  refine lv_aload_n hx hb dX5_isLost_0 rfl (lv_at hl 0 rfl) ?_
  refine mw_get (ci := 5) (v := .int (M h 5)) (C := RX5) (T := TX5) (N := 6) hx hb ht inX5 hown hSt hP kh (by decide) (mk5 kh) rfl 5 (by decide) (ht _ wf_RX5_27) rfl rfl dX5_isLost_1 ?_
  refine lv_if_ne (tgt := 18) hx hb dX5_isLost_4 (by decide) (fun c_1 => ?_) (fun c_1 => ?_)
  · have hw := hw.1 c_1
    refine lv_iconst (v := 0) hx hb dX5_isLost_18 (by decide) ?_
    exact W.zret (v := 0) hx hb hr (by decide) (mw_end hP hSt hTb hS ⟨_, rfl, hw⟩) hS.2.2 dX5_isLost_19
  · have hw := hw.2 c_1
    refine lv_aload_n hx hb dX5_isLost_7 rfl (lv_at hl 0 rfl) ?_
    refine mw_get (ci := 5) (v := .int (M h 3)) (C := RX5) (T := TX5) (N := 6) hx hb ht inX5 hown hSt hP kh (by decide) (mk5 kh) rfl 3 (by decide) (ht _ wf_RX5_21) rfl rfl dX5_isLost_8 ?_
    refine lv_if_ne (tgt := 18) hx hb dX5_isLost_11 (by decide) (fun c_2 => ?_) (fun c_2 => ?_)
    · have hw := hw.1 c_2
      refine lv_iconst (v := 0) hx hb dX5_isLost_18 (by decide) ?_
      exact W.zret (v := 0) hx hb hr (by decide) (mw_end hP hSt hTb hS ⟨_, rfl, hw⟩) hS.2.2 dX5_isLost_19
    · have hw := hw.2 c_2
      refine lv_iconst (v := 1) hx hb dX5_isLost_14 (by decide) ?_
      refine lv_goto (tgt := 19) hx hb dX5_isLost_15 (by decide) ?_
      exact W.zret (v := 1) hx hb hr (by decide) (mw_end hP hSt hTb hS ⟨_, rfl, hw⟩) hS.2.2 dX5_isLost_19
