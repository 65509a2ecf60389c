def wp_X10_becomes (h : Nat) (a1 : Int32) (a2 : Int32) (M : Mem) (Q : Int32 → Mem → Prop) : Prop :=
  kdT h = 10 ∧ (vp_in a1 242 ∧ (∀ x_2, x_2 = M (h + 1) a1.toNatClampNeg → vp_in a1 242 ∧ ∀ M_4, M_4 = mu M (h + 1) a1.toNatClampNeg a2 → Q x_2 M_4))
set_option maxHeartbeats 4000000 in
set_option maxRecDepth 100000 in
theorem so_X10_becomes (l : Launch) (G : Gm) (h : Nat) (a1 : Int32) (a2 : Int32) (M : Mem) (Q : Int32 → Mem → Prop) (hw : wp_X10_becomes h a1 a2 M Q) : Ct l G yX10_becomes cX10_becomes 4 (some .int) ({ frames := 0, cells := 0, slots := 0, locals := 0 } : Room) [.ref (G.1 + h), .int a1, .int a2] M (Qi Q) := by
  unfold wp_X10_becomes at hw
  obtain ⟨kh, hw⟩ := hw
  refine ct_of (by decide) (Nat.le_of_ble_eq_true rfl) ?_
  intro p e s m below meth c E_ ls H hl hP hS
  obtain ⟨hx, hb, hml, hown, hts, ht, hr, hlocks, hSt, hTb⟩ := E_
  have hl : lv_has ls 4 [(0, .ref (G.1 + h)), (1, .int a1), (2, .int a2)] := hl
  refine lv_aload_n hx hb dX10_becomes_0 rfl (lv_at hl 0 rfl) ?_
  refine mw_get (ci := 10) (v := .ref (G.1 + (h + 1))) (C := RX10) (T := TX10) (N := 25) hx hb ht inX10 hown hSt hP kh (by decide) (mk10 kh) rfl 0 (by decide) (ht _ wf_RX10_7) rfl rfl dX10_becomes_1 ?_
  refine lv_iload_n hx hb dX10_becomes_4 rfl (lv_at hl 1 rfl) ?_
  obtain ⟨c_1, hw⟩ := hw
  refine mw_iald hx hb hSt hP (ks10_0 kh) (by rw [(ln10_0 kh)]; exact c_1) dX10_becomes_5 ?_
  refine lv_topi (fun x_2 ex_2 => ?_)
  have hw := hw x_2 ex_2
  refine lv_istore_n (lv' := [(3, .int x_2), (0, .ref (G.1 + h)), (1, .int a1), (2, .int a2)]) hx hb dX10_becomes_6 rfl hl (by decide) rfl (fun ls hl => ?_)
  refine lv_aload_n hx hb dX10_becomes_7 rfl (lv_at hl 1 rfl) ?_
  refine mw_get (ci := 10) (v := .ref (G.1 + (h + 1))) (C := RX10) (T := TX10) (N := 25) hx hb ht inX10 hown hSt hP kh (by decide) (mk10 kh) rfl 0 (by decide) (ht _ wf_RX10_7) rfl rfl dX10_becomes_8 ?_
  refine lv_iload_n hx hb dX10_becomes_11 rfl (lv_at hl 2 rfl) ?_
  refine lv_iload_n hx hb dX10_becomes_12 rfl (lv_at hl 3 rfl) ?_
  obtain ⟨c_3, hw⟩ := hw
  refine mw_iast hx hb hSt hP hS (ks10_0 kh) (by rw [(ln10_0 kh)]; exact c_3) dX10_becomes_13 (fun M_4 H locs eM_4 hP hS => ?_)
  have hw := hw M_4 eM_4
  refine lv_iload_n hx hb dX10_becomes_14 rfl (lv_at hl 0 rfl) ?_
  exact W.iret hx hb hr (mw_end hP hSt hTb hS ⟨_, rfl, hw⟩) hS.2.2 dX10_becomes_15
def wp_X10_errs (h : Nat) (a1 : Int32) (M : Mem) (Q : Int32 → Mem → Prop) : Prop :=
  kdT h = 10 ∧ (vp_in ((-1000000000) - a1) 6 ∧ (vp_in ((-1000000000) - a1) 6 ∧ ∀ M_3, M_3 = mu M (h + 4) ((-1000000000) - a1).toNatClampNeg ((M (h + 4) ((-1000000000) - a1).toNatClampNeg) + 1) → Q a1 M_3))
set_option maxHeartbeats 4000000 in
set_option maxRecDepth 100000 in
theorem so_X10_errs (l : Launch) (G : Gm) (h : Nat) (a1 : Int32) (M : Mem) (Q : Int32 → Mem → Prop) (hw : wp_X10_errs h a1 M Q) : Ct l G yX10_errs cX10_errs 2 (some .int) ({ frames := 0, cells := 0, slots := 0, locals := 0 } : Room) [.ref (G.1 + h), .int a1] M (Qi Q) := by
  unfold wp_X10_errs at hw
  obtain ⟨kh, hw⟩ := hw
  refine ct_of (by decide) (Nat.le_of_ble_eq_true rfl) ?_
  intro p e s m below meth c E_ ls H hl hP hS
  obtain ⟨hx, hb, hml, hown, hts, ht, hr, hlocks, hSt, hTb⟩ := E_
  have hl : lv_has ls 2 [(0, .ref (G.1 + h)), (1, .int a1)] := hl
  refine lv_aload_n hx hb dX10_errs_0 rfl (lv_at hl 0 rfl) ?_
  refine mw_get (ci := 10) (v := .ref (G.1 + (h + 4))) (C := RX10) (T := TX10) (N := 25) hx hb ht inX10 hown hSt hP kh (by decide) (mk10 kh) rfl 5 (by decide) (ht _ wf_RX10_19) rfl rfl dX10_errs_1 ?_
  refine lv_ldc (v := (-1000000000)) hx hb hown (ht _ wk_RX10_49) dX10_errs_4 ?_
  refine lv_iload_n hx hb dX10_errs_6 rfl (lv_at hl 1 rfl) ?_
  refine lv_isub hx hb dX10_errs_7 ?_
  refine lv_dup2_11 hx hb dX10_errs_8 rfl rfl ?_
  obtain ⟨c_1, hw⟩ := hw
  refine mw_iald hx hb hSt hP (ks10_5 kh) (by rw [(ln10_5 kh)]; exact c_1) dX10_errs_9 ?_
  refine lv_iconst (v := 1) hx hb dX10_errs_10 (by decide) ?_
  refine lv_iadd hx hb dX10_errs_11 ?_
  obtain ⟨c_2, hw⟩ := hw
  refine mw_iast hx hb hSt hP hS (ks10_5 kh) (by rw [(ln10_5 kh)]; exact c_2) dX10_errs_12 (fun M_3 H locs eM_3 hP hS => ?_)
  have hw := hw M_3 eM_3
  refine lv_iload_n hx hb dX10_errs_13 rfl (lv_at hl 1 rfl) ?_
  exact W.iret hx hb hr (mw_end hP hSt hTb hS ⟨_, rfl, hw⟩) hS.2.2 dX10_errs_14
def wp_X10_in (a0 : Int32) (a1 : Int32) (a2 : Int32) (M : Mem) (Q : Int32 → Mem → Prop) : Prop :=
  (a0 < a1 → Q 0 M) ∧ (¬ a0 < a1 → (a2 < a0 → Q 0 M) ∧ (¬ a2 < a0 → Q 1 M))
set_option maxHeartbeats 4000000 in
set_option maxRecDepth 100000 in
theorem so_X10_in (l : Launch) (G : Gm) (a0 : Int32) (a1 : Int32) (a2 : Int32) (M : Mem) (Q : Int32 → Mem → Prop) (hw : wp_X10_in a0 a1 a2 M Q) : Ct l G yX10_in cX10_in 3 (some .boolean) ({ frames := 0, cells := 0, slots := 0, locals := 0 } : Room) [.int a0, .int a1, .int a2] M (Qi Q) := by
  unfold wp_X10_in at hw
  refine ct_of (by decide) (Nat.le_of_ble_eq_true rfl) ?_
  intro p e s m below meth c E_ ls H hl hP hS
  obtain ⟨hx, hb, hml, hown, hts, ht, hr, hlocks, hSt, hTb⟩ := E_
  have hl : lv_has ls 3 [(0, .int a0), (1, .int a1), (2, .int a2)] := hl
  refine lv_iload_n hx hb dX10_in_0 rfl (lv_at hl 0 rfl) ?_
  refine lv_iload_n hx hb dX10_in_1 rfl (lv_at hl 1 rfl) ?_
  refine lv_icmp_lt (tgt := 14) hx hb dX10_in_2 (by decide) (fun c_1 => ?_) (fun c_1 => ?_)
  · have hw := hw.1 c_1
    refine lv_iconst (v := 0) hx hb dX10_in_14 (by decide) ?_
    exact W.zret (v := 0) hx hb hr (by decide) (mw_end hP hSt hTb hS ⟨_, rfl, hw⟩) hS.2.2 dX10_in_15
  · have hw := hw.2 c_1
    refine lv_iload_n hx hb dX10_in_5 rfl (lv_at hl 0 rfl) ?_
    refine lv_iload_n hx hb dX10_in_6 rfl (lv_at hl 2 rfl) ?_
    refine lv_icmp_gt (tgt := 14) hx hb dX10_in_7 (by decide) (fun c_2 => ?_) (fun c_2 => ?_)
    · have hw := hw.1 c_2
      refine lv_iconst (v := 0) hx hb dX10_in_14 (by decide) ?_
      exact W.zret (v := 0) hx hb hr (by decide) (mw_end hP hSt hTb hS ⟨_, rfl, hw⟩) hS.2.2 dX10_in_15
    · have hw := hw.2 c_2
      refine lv_iconst (v := 1) hx hb dX10_in_10 (by decide) ?_
      refine lv_goto (tgt := 15) hx hb dX10_in_11 (by decide) ?_
      exact W.zret (v := 1) hx hb hr (by decide) (mw_end hP hSt hTb hS ⟨_, rfl, hw⟩) hS.2.2 dX10_in_15
def wp_X10_isCell (a0 : Int32) (M : Mem) (Q : Int32 → Mem → Prop) : Prop :=
  wp_X10_in a0 0 9 M (fun r_2 M_1 => isb r_2 ∧ Q r_2 M_1)
set_option maxHeartbeats 4000000 in
set_option maxRecDepth 100000 in
theorem so_X10_isCell (l : Launch) (G : Gm) (a0 : Int32) (M : Mem) (Q : Int32 → Mem → Prop) (hw : wp_X10_isCell a0 M Q) : Ct l G yX10_isCell cX10_isCell 1 (some .boolean) ({ frames := 1, cells := 0, slots := 0, locals := 22 } : Room) [.int a0] M (Qi Q) := by
  unfold wp_X10_isCell at hw
  refine ct_of (by decide) (Nat.le_of_ble_eq_true rfl) ?_
  intro p e s m below meth c E_ ls H hl hP hS
  obtain ⟨hx, hb, hml, hown, hts, ht, hr, hlocks, hSt, hTb⟩ := E_
  have hl : lv_has ls 1 [(0, .int a0)] := hl
  refine lv_iload_n hx hb dX10_isCell_0 rfl (lv_at hl 0 rfl) ?_
  refine lv_iconst (v := 0) hx hb dX10_isCell_1 (by decide) ?_
  refine lv_bipush (v := 9) hx hb dX10_isCell_2 (by decide) ?_
  refine mw_Sx (As := [.int a0, .int 0, .int 9]) (rest := []) (n := 3) ⟨hx, hb, hml, hown, hts⟩ (so_X10_in l G a0 0 9 M _ hw) wm_RX10_50 wt_yX10_in wn_RX10 wc_yX10_in (by decide) ⟨Nat.le_of_ble_eq_true rfl, Nat.le_of_ble_eq_true rfl⟩ ⟨rfl, rfl⟩ hSt hTb hP hS rfl hl.1 rfl (Nat.le_of_ble_eq_true rfl) dX10_isCell_4 ⟨Nat.le_refl 0, Nat.le_refl 0⟩ (fun rr_ M_1 H locs hq hP hS => ?_)
  obtain ⟨r_2, rfl, hw⟩ := hq
  obtain ⟨c_3, hw⟩ := hw
  exact W.zret hx hb hr c_3.narrow (mw_end hP hSt hTb hS ⟨_, rfl, hw⟩) hS.2.2 dX10_isCell_7
def b_X10_snow_30 (h : Nat) (Q : Int32 → Mem → Prop) (M : Mem) : Prop :=
  wp_X10_errs h (-1000000001) M (fun r_2 M_1 => Q r_2 M_1)
def wp_X10_snow (h : Nat) (a1 : Int32) (a2 : Int32) (M : Mem) (Q : Int32 → Mem → Prop) : Prop :=
  kdT h = 10 ∧ (wp_X10_isCell a1 M (fun r_4 M_3 => (r_4 = 0 → b_X10_snow_30 h Q M_3) ∧ (¬ r_4 = 0 → wp_X10_in a2 0 999 M_3 (fun r_7 M_6 => (r_7 = 0 → b_X10_snow_30 h Q M_6) ∧ (¬ r_7 = 0 → wp_X10_becomes h (8 + a1) a2 M_6 (fun r_10 M_9 => Q r_10 M_9))))))
set_option maxHeartbeats 4000000 in
set_option maxRecDepth 100000 in
theorem so_X10_snow (l : Launch) (G : Gm) (h : Nat) (a1 : Int32) (a2 : Int32) (M : Mem) (Q : Int32 → Mem → Prop) (hw : wp_X10_snow h a1 a2 M Q) : Ct l G yX10_snow cX10_snow 3 (some .int) ({ frames := 2, cells := 0, slots := 0, locals := 42 } : Room) [.ref (G.1 + h), .int a1, .int a2] M (Qi Q) := by
  unfold wp_X10_snow at hw
  obtain ⟨kh, hw⟩ := hw
  refine ct_of (by decide) (Nat.le_of_ble_eq_true rfl) ?_
  intro p e s m below meth c E_ ls H hl hP hS
  obtain ⟨hx, hb, hml, hown, hts, ht, hr, hlocks, hSt, hTb⟩ := E_
  have hl : lv_has ls 3 [(0, .ref (G.1 + h)), (1, .int a1), (2, .int a2)] := hl
  have J_30 : ∀  (M : Mem) (H : Heap) (locs : List Loc) (ls : Array Slot), b_X10_snow_30 h Q M → va_P G.2.1 clsA (wl G M) H → va_S (inW G) s.heap H locs → lv_has ls 3 [(0, .ref (G.1 + h))] → W p l e ({ frames := 2, cells := 0, slots := 0, locals := 42 } : Room) s m ([.ref (G.1 + h), .int a1, .int a2] : List Value).toArray below meth c H locs 0 0 (MQ below (Pq G (Qi Q)) ([.ref (G.1 + h), .int a1, .int a2] : List Value).toArray s 0 0 (inW G)) (F0 m 30 ls []) := by
    intro  M H locs ls  hw hP hS hl
    unfold b_X10_snow_30 at hw
    refine lv_aload_n hx hb dX10_snow_30 rfl (lv_at hl 0 rfl) ?_
    refine lv_ldc (v := (-1000000001)) hx hb hown (ht _ wk_RX10_62) dX10_snow_31 ?_
    refine mw_V (As := [.int (-1000000001)]) (rest := []) (T := TX10) (N := 25) (n := 1) ⟨hx, hb, hml, hown, hts⟩ (so_X10_errs l G h (-1000000001) M _ hw) wm_RX10_63 wi_yX10_errs wv_yX10_errs wn_RX10 wc_yX10_errs (by decide) ⟨Nat.le_of_ble_eq_true rfl, Nat.le_of_ble_eq_true rfl⟩ ⟨rfl, rfl⟩ kh (by decide) (mk10 kh) rfl hSt hTb hP hS rfl hl.1 rfl (Nat.le_of_ble_eq_true rfl) dX10_snow_33 ⟨Nat.le_refl 0, Nat.le_refl 0⟩ (fun rr_ M_1 H locs hq hP hS => ?_)
    obtain ⟨r_2, rfl, hw⟩ := hq
    exact W.iret hx hb hr (mw_end hP hSt hTb hS ⟨_, rfl, hw⟩) hS.2.2 dX10_snow_36
  refine lv_iload_n hx hb dX10_snow_0 rfl (lv_at hl 1 rfl) ?_
  refine mw_Sx (As := [.int a1]) (rest := []) (n := 1) ⟨hx, hb, hml, hown, hts⟩ (so_X10_isCell l G a1 M _ hw) wm_RX10_54 wt_yX10_isCell wn_RX10 wc_yX10_isCell (by decide) ⟨Nat.le_of_ble_eq_true rfl, Nat.le_of_ble_eq_true rfl⟩ ⟨rfl, rfl⟩ hSt hTb hP hS rfl hl.1 rfl (Nat.le_of_ble_eq_true rfl) dX10_snow_1 ⟨Nat.le_refl 0, Nat.le_refl 0⟩ (fun rr_ M_3 H locs hq hP hS => ?_)
  obtain ⟨r_4, rfl, hw⟩ := hq
  refine lv_if_eq (tgt := 30) hx hb dX10_snow_4 (by decide) (fun c_5 => ?_) (fun c_5 => ?_)
  · have hw := hw.1 c_5
    exact J_30 M_3 _ _ _ hw hP hS (lv_sub hl [0] rfl)
  · have hw := hw.2 c_5
    refine lv_iload_n hx hb dX10_snow_7 rfl (lv_at hl 2 rfl) ?_
    refine lv_iconst (v := 0) hx hb dX10_snow_8 (by decide) ?_
    refine lv_sipush (v := 999) hx hb dX10_snow_9 (by decide) ?_
    refine mw_Sx (As := [.int a2, .int 0, .int 999]) (rest := []) (n := 3) ⟨hx, hb, hml, hown, hts⟩ (so_X10_in l G a2 0 999 M_3 _ hw) wm_RX10_50 wt_yX10_in wn_RX10 wc_yX10_in (by decide) ⟨Nat.le_of_ble_eq_true rfl, Nat.le_of_ble_eq_true rfl⟩ ⟨rfl, rfl⟩ hSt hTb hP hS rfl hl.1 rfl (Nat.le_of_ble_eq_true rfl) dX10_snow_12 ⟨Nat.le_refl 0, Nat.le_refl 0⟩ (fun rr_ M_6 H locs hq hP hS => ?_)
    obtain ⟨r_7, rfl, hw⟩ := hq
    refine lv_if_eq (tgt := 30) hx hb dX10_snow_15 (by decide) (fun c_8 => ?_) (fun c_8 => ?_)
    · have hw := hw.1 c_8
      exact J_30 M_6 _ _ _ hw hP hS (lv_sub hl [0] rfl)
    · have hw := hw.2 c_8
      refine lv_aload_n hx hb dX10_snow_18 rfl (lv_at hl 0 rfl) ?_
      refine lv_bipush (v := 8) hx hb dX10_snow_19 (by decide) ?_
      refine lv_iload_n hx hb dX10_snow_21 rfl (lv_at hl 1 rfl) ?_
      refine lv_iadd hx hb dX10_snow_22 ?_
      refine lv_iload_n hx hb dX10_snow_23 rfl (lv_at hl 2 rfl) ?_
      refine mw_V (As := [.int (8 + a1), .int a2]) (rest := []) (T := TX10) (N := 25) (n := 2) ⟨hx, hb, hml, hown, hts⟩ (so_X10_becomes l G h (8 + a1) a2 M_6 _ hw) wm_RX10_58 wi_yX10_becomes wv_yX10_becomes wn_RX10 wc_yX10_becomes (by decide) ⟨Nat.le_of_ble_eq_true rfl, Nat.le_of_ble_eq_true rfl⟩ ⟨rfl, rfl⟩ kh (by decide) (mk10 kh) rfl hSt hTb hP hS rfl hl.1 rfl (Nat.le_of_ble_eq_true rfl) dX10_snow_24 ⟨Nat.le_refl 0, Nat.le_refl 0⟩ (fun rr_ M_9 H locs hq hP hS => ?_)
      obtain ⟨r_10, rfl, hw⟩ := hq
      refine lv_goto (tgt := 36) hx hb dX10_snow_27 (by decide) ?_
      exact W.iret hx hb hr (mw_end hP hSt hTb hS ⟨_, rfl, hw⟩) hS.2.2 dX10_snow_36
def wp_X10_at (h : Nat) (a1 : Int32) (M : Mem) (Q : Int32 → Mem → Prop) : Prop :=
  kdT h = 10 ∧ (vp_in (18 + (2 * a1)) 242 ∧ (Q (M (h + 1) (18 + (2 * a1)).toNatClampNeg) M))
set_option maxHeartbeats 4000000 in
set_option maxRecDepth 100000 in
theorem so_X10_at (l : Launch) (G : Gm) (h : Nat) (a1 : Int32) (M : Mem) (Q : Int32 → Mem → Prop) (hw : wp_X10_at h a1 M Q) : Ct l G yX10_at cX10_at 2 (some .int) ({ frames := 0, cells := 0, slots := 0, locals := 0 } : Room) [.ref (G.1 + h), .int a1] M (Qi Q) := by
  unfold wp_X10_at at hw
  obtain ⟨kh, hw⟩ := hw
  refine ct_of (by decide) (Nat.le_of_ble_eq_true rfl) ?_
  intro p e s m below meth c E_ ls H hl hP hS
  obtain ⟨hx, hb, hml, hown, hts, ht, hr, hlocks, hSt, hTb⟩ := E_
  have hl : lv_has ls 2 [(0, .ref (G.1 + h)), (1, .int a1)] := hl
  refine lv_aload_n hx hb dX10_at_0 rfl (lv_at hl 0 rfl) ?_
  refine mw_get (ci := 10) (v := .ref (G.1 + (h + 1))) (C := RX10) (T := TX10) (N := 25) hx hb ht inX10 hown hSt hP kh (by decide) (mk10 kh) rfl 0 (by decide) (ht _ wf_RX10_7) rfl rfl dX10_at_1 ?_
  refine lv_bipush (v := 18) hx hb dX10_at_4 (by decide) ?_
  refine lv_iconst (v := 2) hx hb dX10_at_6 (by decide) ?_
  refine lv_iload_n hx hb dX10_at_7 rfl (lv_at hl 1 rfl) ?_
  refine lv_imul hx hb dX10_at_8 ?_
  refine lv_iadd hx hb dX10_at_9 ?_
  obtain ⟨c_1, hw⟩ := hw
  refine mw_iald hx hb hSt hP (ks10_0 kh) (by rw [(ln10_0 kh)]; exact c_1) dX10_at_10 ?_
  exact W.iret hx hb hr (mw_end hP hSt hTb hS ⟨_, rfl, hw⟩) hS.2.2 dX10_at_11
def wp_X10_its (h : Nat) (a1 : Int32) (a2 : Int32) (M : Mem) (Q : Int32 → Mem → Prop) : Prop :=
  kdT h = 10 ∧ (vp_in ((30 + (6 * a1)) + a2) 242 ∧ (Q (M (h + 1) ((30 + (6 * a1)) + a2).toNatClampNeg) M))
set_option maxHeartbeats 4000000 in
set_option maxRecDepth 100000 in
theorem so_X10_its (l : Launch) (G : Gm) (h : Nat) (a1 : Int32) (a2 : Int32) (M : Mem) (Q : Int32 → Mem → Prop) (hw : wp_X10_its h a1 a2 M Q) : Ct l G yX10_its cX10_its 3 (some .int) ({ frames := 0, cells := 0, slots := 0, locals := 0 } : Room) [.ref (G.1 + h), .int a1, .int a2] M (Qi Q) := by
  unfold wp_X10_its at hw
  obtain ⟨kh, hw⟩ := hw
  refine ct_of (by decide) (Nat.le_of_ble_eq_true rfl) ?_
  intro p e s m below meth c E_ ls H hl hP hS
  obtain ⟨hx, hb, hml, hown, hts, ht, hr, hlocks, hSt, hTb⟩ := E_
  have hl : lv_has ls 3 [(0, .ref (G.1 + h)), (1, .int a1), (2, .int a2)] := hl
  refine lv_aload_n hx hb dX10_its_0 rfl (lv_at hl 0 rfl) ?_
  refine mw_get (ci := 10) (v := .ref (G.1 + (h + 1))) (C := RX10) (T := TX10) (N := 25) hx hb ht inX10 hown hSt hP kh (by decide) (mk10 kh) rfl 0 (by decide) (ht _ wf_RX10_7) rfl rfl dX10_its_1 ?_
  refine lv_bipush (v := 30) hx hb dX10_its_4 (by decide) ?_
  refine lv_bipush (v := 6) hx hb dX10_its_6 (by decide) ?_
  refine lv_iload_n hx hb dX10_its_8 rfl (lv_at hl 1 rfl) ?_
  refine lv_imul hx hb dX10_its_9 ?_
  refine lv_iadd hx hb dX10_its_10 ?_
  refine lv_iload_n hx hb dX10_its_11 rfl (lv_at hl 2 rfl) ?_
  refine lv_iadd hx hb dX10_its_12 ?_
  obtain ⟨c_1, hw⟩ := hw
  refine mw_iald hx hb hSt hP (ks10_0 kh) (by rw [(ln10_0 kh)]; exact c_1) dX10_its_13 ?_
  exact W.iret hx hb hr (mw_end hP hSt hTb hS ⟨_, rfl, hw⟩) hS.2.2 dX10_its_14
def b_X10_thereIn_62 (h : Nat) (Q : Int32 → Mem → Prop) (K5 : Int32 → Int32 → Mem → Prop) (v1 : Int32) (v2 : Int32) (v4 : Int32) (s0 : Int32) (s1 : Int32) (M : Mem) : Prop :=
  ∀ x_1, x_1 = s0 ||| s1 → ∀ x_2 : Int32, x_2 = v4 + 1 → K5 x_1 x_2 M
def b_X10_thereIn_50 (h : Nat) (Q : Int32 → Mem → Prop) (K5 : Int32 → Int32 → Mem → Prop) (v1 : Int32) (v2 : Int32) (v4 : Int32) (s0 : Int32) (s1 : Int32) (M : Mem) : Prop :=
  (¬ s1 = v1 → b_X10_thereIn_62 h Q K5 v1 v2 v4 s0 0 M) ∧ (s1 = v1 → b_X10_thereIn_62 h Q K5 v1 v2 v4 s0 (ish 1 v4) M)
def b_X10_thereIn_26 (h : Nat) (Q : Int32 → Mem → Prop) (K5 : Int32 → Int32 → Mem → Prop) (v1 : Int32) (v2 : Int32) (v3 : Int32) (v4 : Int32) (s0 : Int32) (s1 : Int32) (M : Mem) : Prop :=
  (s1 ≤ s0 → Q v3 M) ∧ (¬ s1 ≤ s0 → (v2 = 0 → wp_X10_at h v4 M (fun r_7 M_6 => b_X10_thereIn_50 h Q K5 v1 v2 v4 v3 r_7 M_6)) ∧ (¬ v2 = 0 → wp_X10_its h v4 2 M (fun r_9 M_8 => b_X10_thereIn_50 h Q K5 v1 v2 v4 v3 r_9 M_8)))
def B_X10_thereIn_5 (h : Nat) (Q : Int32 → Mem → Prop) (v1 : Int32) (v2 : Int32) (K5 : Int32 → Int32 → Mem → Prop) (v3 : Int32) (v4 : Int32) (M : Mem) : Prop :=
  (v2 = 0 → b_X10_thereIn_26 h Q K5 v1 v2 v3 v4 v4 (M (h + 1) 3) M) ∧ (¬ v2 = 0 → b_X10_thereIn_26 h Q K5 v1 v2 v3 v4 v4 (M (h + 1) 2) M)
def l_X10_thereIn_5 (h : Nat) (Q : Int32 → Mem → Prop) (v1 : Int32) (v2 : Int32) : Nat → Int32 → Int32 → Mem → Prop
  | 0 => fun _ _ _ => False
  | n + 1 => B_X10_thereIn_5 h Q v1 v2 (l_X10_thereIn_5 h Q v1 v2 n)
def wp_X10_thereIn (h : Nat) (a1 : Int32) (a2 : Int32) (M : Mem) (Q : Int32 → Mem → Prop) : Prop :=
  kdT h = 10 ∧ (∃ n, l_X10_thereIn_5 h Q a1 a2 n 0 0 M)
set_option maxHeartbeats 4000000 in
set_option maxRecDepth 100000 in
theorem so_X10_thereIn (l : Launch) (G : Gm) (h : Nat) (a1 : Int32) (a2 : Int32) (M : Mem) (Q : Int32 → Mem → Prop) (hw : wp_X10_thereIn h a1 a2 M Q) : Ct l G yX10_thereIn cX10_thereIn 5 (some .int) ({ frames := 1, cells := 0, slots := 0, locals := 22 } : Room) [.ref (G.1 + h), .int a1, .int a2] M (Qi Q) := by
  unfold wp_X10_thereIn at hw
  obtain ⟨kh, hw⟩ := hw
  refine ct_of (by decide) (Nat.le_of_ble_eq_true rfl) ?_
  intro p e s m below meth c E_ ls H hl hP hS
  obtain ⟨hx, hb, hml, hown, hts, ht, hr, hlocks, hSt, hTb⟩ := E_
  have hl : lv_has ls 5 [(0, .ref (G.1 + h)), (1, .int a1), (2, .int a2)] := hl
  have L_5 : ∀ (v1 : Int32) (v2 : Int32), ∀ (n5 : Nat) (v3 : Int32) (v4 : Int32) (M : Mem) (H : Heap) (locs : List Loc) (ls : Array Slot), l_X10_thereIn_5 h Q v1 v2 n5 v3 v4 M → va_P G.2.1 clsA (wl G M) H → va_S (inW G) s.heap H locs → lv_has ls 5 [(0, .ref (G.1 + h)), (1, .int v1), (2, .int v2), (3, .int v3), (4, .int v4)] → W p l e ({ frames := 1, cells := 0, slots := 0, locals := 22 } : Room) s m ([.ref (G.1 + h), .int a1, .int a2] : List Value).toArray below meth c H locs 0 0 (MQ below (Pq G (Qi Q)) ([.ref (G.1 + h), .int a1, .int a2] : List Value).toArray s 0 0 (inW G)) (F0 m 5 ls []) := by
    intro v1 v2  n5
    induction n5 with
    | zero => intro v3 v4 M H locs ls  hw hP hS hl; exact False.elim hw
    | succ n5 ih5 =>
      have J_62 : ∀ (v4 : Int32) (s0 : Int32) (s1 : Int32) (M : Mem) (H : Heap) (locs : List Loc) (ls : Array Slot), b_X10_thereIn_62 h Q (l_X10_thereIn_5 h Q v1 v2 n5) v1 v2 v4 s0 s1 M → va_P G.2.1 clsA (wl G M) H → va_S (inW G) s.heap H locs → lv_has ls 5 [(0, .ref (G.1 + h)), (1, .int v1), (2, .int v2), (4, .int v4)] → W p l e ({ frames := 1, cells := 0, slots := 0, locals := 22 } : Room) s m ([.ref (G.1 + h), .int a1, .int a2] : List Value).toArray below meth c H locs 0 0 (MQ below (Pq G (Qi Q)) ([.ref (G.1 + h), .int a1, .int a2] : List Value).toArray s 0 0 (inW G)) (F0 m 62 ls [.int s1, .int s0]) := by
        intro v4 s0 s1 M H locs ls  hw hP hS hl
        unfold b_X10_thereIn_62 at hw
        refine lv_ior hx hb dX10_thereIn_62 ?_
        refine lv_topi (fun x_1 ex_1 => ?_)
        have hw := hw x_1 ex_1
        refine lv_istore_n (lv' := [(3, .int x_1), (0, .ref (G.1 + h)), (1, .int v1), (2, .int v2), (4, .int v4)]) hx hb dX10_thereIn_63 rfl hl (by decide) rfl (fun ls hl => ?_)
        obtain ⟨x_2, ex_2⟩ : ∃ z : Int32, z = v4 + 1 := ⟨_, rfl⟩
        have hw := hw x_2 ex_2
        refine lv_iinc (v := x_2) (lv' := [(4, .int x_2), (3, .int x_1), (0, .ref (G.1 + h)), (1, .int v1), (2, .int v2)]) hx hb dX10_thereIn_64 hl (k := 4) rfl (by rw [ex_2]; rfl) (by decide) rfl (fun ls hl => ?_)
        refine lv_goto (tgt := 5) hx hb dX10_thereIn_67 (by decide) ?_
        exact ih5 x_1 x_2 M _ _ _ hw hP hS (lv_sub hl [2, 3, 4, 1, 0] rfl)
      have J_50 : ∀ (v4 : Int32) (s0 : Int32) (s1 : Int32) (M : Mem) (H : Heap) (locs : List Loc) (ls : Array Slot), b_X10_thereIn_50 h Q (l_X10_thereIn_5 h Q v1 v2 n5) v1 v2 v4 s0 s1 M → va_P G.2.1 clsA (wl G M) H → va_S (inW G) s.heap H locs → lv_has ls 5 [(0, .ref (G.1 + h)), (1, .int v1), (2, .int v2), (4, .int v4)] → W p l e ({ frames := 1, cells := 0, slots := 0, locals := 22 } : Room) s m ([.ref (G.1 + h), .int a1, .int a2] : List Value).toArray below meth c H locs 0 0 (MQ below (Pq G (Qi Q)) ([.ref (G.1 + h), .int a1, .int a2] : List Value).toArray s 0 0 (inW G)) (F0 m 50 ls [.int s1, .int s0]) := by
        intro v4 s0 s1 M H locs ls  hw hP hS hl
        unfold b_X10_thereIn_50 at hw
        refine lv_iload_n hx hb dX10_thereIn_50 rfl (lv_at hl 1 rfl) ?_
        refine lv_icmp_ne (tgt := 61) hx hb dX10_thereIn_51 (by decide) (fun c_3 => ?_) (fun c_3 => ?_)
        · have hw := hw.1 c_3
          refine lv_iconst (v := 0) hx hb dX10_thereIn_61 (by decide) ?_
          exact J_62 v4 s0 0 M _ _ _ hw hP hS (lv_sub hl [0, 1, 2, 3] rfl)
        · have hw := hw.2 c_3
          refine lv_iconst (v := 1) hx hb dX10_thereIn_54 (by decide) ?_
          refine lv_iload hx hb dX10_thereIn_55 (lv_at hl 3 rfl) ?_
          refine lv_ishl hx hb dX10_thereIn_57 ?_
          refine lv_goto (tgt := 62) hx hb dX10_thereIn_58 (by decide) ?_
          exact J_62 v4 s0 (ish 1 v4) M _ _ _ hw hP hS (lv_sub hl [0, 1, 2, 3] rfl)
      have J_26 : ∀ (v3 : Int32) (v4 : Int32) (s0 : Int32) (s1 : Int32) (M : Mem) (H : Heap) (locs : List Loc) (ls : Array Slot), b_X10_thereIn_26 h Q (l_X10_thereIn_5 h Q v1 v2 n5) v1 v2 v3 v4 s0 s1 M → va_P G.2.1 clsA (wl G M) H → va_S (inW G) s.heap H locs → lv_has ls 5 [(0, .ref (G.1 + h)), (1, .int v1), (2, .int v2), (3, .int v3), (4, .int v4)] → W p l e ({ frames := 1, cells := 0, slots := 0, locals := 22 } : Room) s m ([.ref (G.1 + h), .int a1, .int a2] : List Value).toArray below meth c H locs 0 0 (MQ below (Pq G (Qi Q)) ([.ref (G.1 + h), .int a1, .int a2] : List Value).toArray s 0 0 (inW G)) (F0 m 26 ls [.int s1, .int s0]) := by
        intro v3 v4 s0 s1 M H locs ls  hw hP hS hl
        unfold b_X10_thereIn_26 at hw
        refine lv_icmp_ge (tgt := 70) hx hb dX10_thereIn_26 (by decide) (fun c_4 => ?_) (fun c_4 => ?_)
        · have hw := hw.1 c_4
          refine lv_iload_n hx hb dX10_thereIn_70 rfl (lv_at hl 3 rfl) ?_
          exact W.iret hx hb hr (mw_end hP hSt hTb hS ⟨_, rfl, hw⟩) hS.2.2 dX10_thereIn_71
        · have hw := hw.2 c_4
          refine lv_iload_n hx hb dX10_thereIn_29 rfl (lv_at hl 3 rfl) ?_
          refine lv_iload_n hx hb dX10_thereIn_30 rfl (lv_at hl 2 rfl) ?_
          refine lv_if_eq (tgt := 44) hx hb dX10_thereIn_31 (by decide) (fun c_5 => ?_) (fun c_5 => ?_)
          · have hw := hw.1 c_5
            refine lv_aload_n hx hb dX10_thereIn_44 rfl (lv_at hl 0 rfl) ?_
            refine lv_iload hx hb dX10_thereIn_45 (lv_at hl 4 rfl) ?_
            refine mw_V (As := [.int v4]) (rest := [.int v3]) (T := TX10) (N := 25) (n := 1) ⟨hx, hb, hml, hown, hts⟩ (so_X10_at l G h v4 M _ hw) wm_RX10_70 wi_yX10_at wv_yX10_at wn_RX10 wc_yX10_at (by decide) ⟨Nat.le_of_ble_eq_true rfl, Nat.le_of_ble_eq_true rfl⟩ ⟨rfl, rfl⟩ kh (by decide) (mk10 kh) rfl hSt hTb hP hS rfl hl.1 rfl (Nat.le_of_ble_eq_true rfl) dX10_thereIn_47 ⟨Nat.le_refl 0, Nat.le_refl 0⟩ (fun rr_ M_6 H locs hq hP hS => ?_)
            obtain ⟨r_7, rfl, hw⟩ := hq
            exact J_50 v4 v3 r_7 M_6 _ _ _ hw hP hS (lv_sub hl [0, 1, 2, 4] rfl)
          · have hw := hw.2 c_5
            refine lv_aload_n hx hb dX10_thereIn_34 rfl (lv_at hl 0 rfl) ?_
            refine lv_iload hx hb dX10_thereIn_35 (lv_at hl 4 rfl) ?_
            refine lv_iconst (v := 2) hx hb dX10_thereIn_37 (by decide) ?_
            refine mw_V (As := [.int v4, .int 2]) (rest := [.int v3]) (T := TX10) (N := 25) (n := 2) ⟨hx, hb, hml, hown, hts⟩ (so_X10_its l G h v4 2 M _ hw) wm_RX10_67 wi_yX10_its wv_yX10_its wn_RX10 wc_yX10_its (by decide) ⟨Nat.le_of_ble_eq_true rfl, Nat.le_of_ble_eq_true rfl⟩ ⟨rfl, rfl⟩ kh (by decide) (mk10 kh) rfl hSt hTb hP hS rfl hl.1 rfl (Nat.le_of_ble_eq_true rfl) dX10_thereIn_38 ⟨Nat.le_refl 0, Nat.le_refl 0⟩ (fun rr_ M_8 H locs hq hP hS => ?_)
            obtain ⟨r_9, rfl, hw⟩ := hq
            refine lv_goto (tgt := 50) hx hb dX10_thereIn_41 (by decide) ?_
            exact J_50 v4 v3 r_9 M_8 _ _ _ hw hP hS (lv_sub hl [0, 1, 2, 4] rfl)
      intro v3 v4 M H locs ls  hw hP hS hl
      have hw : B_X10_thereIn_5 h Q v1 v2 (l_X10_thereIn_5 h Q v1 v2 n5) v3 v4 M := hw
      unfold B_X10_thereIn_5 at hw
      refine lv_iload hx hb dX10_thereIn_5 (lv_at hl 4 rfl) ?_
      refine lv_iload_n hx hb dX10_thereIn_7 rfl (lv_at hl 2 rfl) ?_
      refine lv_if_eq (tgt := 20) hx hb dX10_thereIn_8 (by decide) (fun c_10 => ?_) (fun c_10 => ?_)
      · have hw := hw.1 c_10
        refine lv_aload_n hx hb dX10_thereIn_20 rfl (lv_at hl 0 rfl) ?_
        refine mw_get (ci := 10) (v := .ref (G.1 + (h + 1))) (C := RX10) (T := TX10) (N := 25) hx hb ht inX10 hown hSt hP kh (by decide) (mk10 kh) rfl 0 (by decide) (ht _ wf_RX10_7) rfl rfl dX10_thereIn_21 ?_
        refine lv_iconst (v := 3) hx hb dX10_thereIn_24 (by decide) ?_
        refine mw_ialdc hx hb hSt hP (ks10_0 kh) (ln10_0 kh) 3 (by decide) dX10_thereIn_25 ?_
        exact J_26 v3 v4 v4 (M (h + 1) 3) M _ _ _ hw hP hS (lv_sub hl [0, 1, 2, 3, 4] rfl)
      · have hw := hw.2 c_10
        refine lv_aload_n hx hb dX10_thereIn_11 rfl (lv_at hl 0 rfl) ?_
        refine mw_get (ci := 10) (v := .ref (G.1 + (h + 1))) (C := RX10) (T := TX10) (N := 25) hx hb ht inX10 hown hSt hP kh (by decide) (mk10 kh) rfl 0 (by decide) (ht _ wf_RX10_7) rfl rfl dX10_thereIn_12 ?_
        refine lv_iconst (v := 2) hx hb dX10_thereIn_15 (by decide) ?_
        refine mw_ialdc hx hb hSt hP (ks10_0 kh) (ln10_0 kh) 2 (by decide) dX10_thereIn_16 ?_
        refine lv_goto (tgt := 26) hx hb dX10_thereIn_17 (by decide) ?_
        exact J_26 v3 v4 v4 (M (h + 1) 2) M _ _ _ hw hP hS (lv_sub hl [0, 1, 2, 3, 4] rfl)
  refine lv_iconst (v := 0) hx hb dX10_thereIn_0 (by decide) ?_
  refine lv_istore_n (lv' := [(3, .int 0), (0, .ref (G.1 + h)), (1, .int a1), (2, .int a2)]) hx hb dX10_thereIn_1 rfl hl (by decide) rfl (fun ls hl => ?_)
  refine lv_iconst (v := 0) hx hb dX10_thereIn_2 (by decide) ?_
  refine lv_istore (lv' := [(4, .int 0), (3, .int 0), (0, .ref (G.1 + h)), (1, .int a1), (2, .int a2)]) hx hb dX10_thereIn_3 hl (by decide) rfl (fun ls hl => ?_)
  obtain ⟨n_, hw⟩ := hw
  exact L_5 a1 a2 n_ 0 0 M _ _ _ hw hP hS (lv_sub hl [2, 3, 4, 1, 0] rfl)
def b_X10_ofCell_51 (h : Nat) (Q : Int32 → Mem → Prop) (s0 : Nat) (s1 : Int32) (s2 : Int32) (M : Mem) : Prop :=
  wp_X10_thereIn s0 s1 s2 M (fun r_2 M_1 => Q r_2 M_1)
def b_X10_ofCell_16 (h : Nat) (Q : Int32 → Mem → Prop) (M : Mem) : Prop :=
  wp_X10_errs h (-1000000001) M (fun r_4 M_3 => Q r_4 M_3)
def wp_X10_ofCell (h : Nat) (a1 : Int32) (a2 : Int32) (M : Mem) (Q : Int32 → Mem → Prop) : Prop :=
  kdT h = 10 ∧ (wp_X10_isCell a1 M (fun r_6 M_5 => (r_6 = 0 → b_X10_ofCell_16 h Q M_5) ∧ (¬ r_6 = 0 → wp_X10_in a2 0 2 M_5 (fun r_9 M_8 => (¬ r_9 = 0 → (¬ a2 = 0 → (¬ a2 = 2 → b_X10_ofCell_51 h Q h a1 0 M_8) ∧ (a2 = 2 → b_X10_ofCell_51 h Q h a1 1 M_8)) ∧ (a2 = 0 → vp_in (8 + a1) 242 ∧ (Q (M_8 (h + 1) (8 + a1).toNatClampNeg) M_8))) ∧ (r_9 = 0 → b_X10_ofCell_16 h Q M_8)))))
set_option maxHeartbeats 4000000 in
set_option maxRecDepth 100000 in
theorem so_X10_ofCell (l : Launch) (G : Gm) (h : Nat) (a1 : Int32) (a2 : Int32) (M : Mem) (Q : Int32 → Mem → Prop) (hw : wp_X10_ofCell h a1 a2 M Q) : Ct l G yX10_ofCell cX10_ofCell 3 (some .int) ({ frames := 2, cells := 0, slots := 0, locals := 46 } : Room) [.ref (G.1 + h), .int a1, .int a2] M (Qi Q) := by
  unfold wp_X10_ofCell at hw
  obtain ⟨kh, hw⟩ := hw
  refine ct_of (by decide) (Nat.le_of_ble_eq_true rfl) ?_
  intro p e s m below meth c E_ ls H hl hP hS
  obtain ⟨hx, hb, hml, hown, hts, ht, hr, hlocks, hSt, hTb⟩ := E_
  have hl : lv_has ls 3 [(0, .ref (G.1 + h)), (1, .int a1), (2, .int a2)] := hl
  have J_51 : ∀ (s0 : Nat) (s1 : Int32) (s2 : Int32) (M : Mem) (H : Heap) (locs : List Loc) (ls : Array Slot), kdT s0 = 10 → b_X10_ofCell_51 h Q s0 s1 s2 M → va_P G.2.1 clsA (wl G M) H → va_S (inW G) s.heap H locs → lv_has ls 3 [(0, .ref (G.1 + h))] → W p l e ({ frames := 2, cells := 0, slots := 0, locals := 46 } : Room) s m ([.ref (G.1 + h), .int a1, .int a2] : List Value).toArray below meth c H locs 0 0 (MQ below (Pq G (Qi Q)) ([.ref (G.1 + h), .int a1, .int a2] : List Value).toArray s 0 0 (inW G)) (F0 m 51 ls [.int s2, .int s1, .ref (G.1 + s0)]) := by
    intro s0 s1 s2 M H locs ls ks0 hw hP hS hl
    unfold b_X10_ofCell_51 at hw
    refine mw_V (As := [.int s1, .int s2]) (rest := []) (T := TX10) (N := 25) (n := 2) ⟨hx, hb, hml, hown, hts⟩ (so_X10_thereIn l G s0 s1 s2 M _ hw) wm_RX10_73 wi_yX10_thereIn wv_yX10_thereIn wn_RX10 wc_yX10_thereIn (by decide) ⟨Nat.le_of_ble_eq_true rfl, Nat.le_of_ble_eq_true rfl⟩ ⟨rfl, rfl⟩ ks0 (by decide) (mk10 ks0) rfl hSt hTb hP hS rfl hl.1 rfl (Nat.le_of_ble_eq_true rfl) dX10_ofCell_51 ⟨Nat.le_refl 0, Nat.le_refl 0⟩ (fun rr_ M_1 H locs hq hP hS => ?_)
    obtain ⟨r_2, rfl, hw⟩ := hq
    exact W.iret hx hb hr (mw_end hP hSt hTb hS ⟨_, rfl, hw⟩) hS.2.2 dX10_ofCell_54
  have J_16 : ∀  (M : Mem) (H : Heap) (locs : List Loc) (ls : Array Slot), b_X10_ofCell_16 h Q M → va_P G.2.1 clsA (wl G M) H → va_S (inW G) s.heap H locs → lv_has ls 3 [(0, .ref (G.1 + h))] → W p l e ({ frames := 2, cells := 0, slots := 0, locals := 46 } : Room) s m ([.ref (G.1 + h), .int a1, .int a2] : List Value).toArray below meth c H locs 0 0 (MQ below (Pq G (Qi Q)) ([.ref (G.1 + h), .int a1, .int a2] : List Value).toArray s 0 0 (inW G)) (F0 m 16 ls []) := by
    intro  M H locs ls  hw hP hS hl
    unfold b_X10_ofCell_16 at hw
    refine lv_aload_n hx hb dX10_ofCell_16 rfl (lv_at hl 0 rfl) ?_
    refine lv_ldc (v := (-1000000001)) hx hb hown (ht _ wk_RX10_62) dX10_ofCell_17 ?_
    refine mw_V (As := [.int (-1000000001)]) (rest := []) (T := TX10) (N := 25) (n := 1) ⟨hx, hb, hml, hown, hts⟩ (so_X10_errs l G h (-1000000001) M _ hw) wm_RX10_63 wi_yX10_errs wv_yX10_errs wn_RX10 wc_yX10_errs (by decide) ⟨Nat.le_of_ble_eq_true rfl, Nat.le_of_ble_eq_true rfl⟩ ⟨rfl, rfl⟩ kh (by decide) (mk10 kh) rfl hSt hTb hP hS rfl hl.1 rfl (Nat.le_of_ble_eq_true rfl) dX10_ofCell_19 ⟨Nat.le_refl 0, Nat.le_refl 0⟩ (fun rr_ M_3 H locs hq hP hS => ?_)
    obtain ⟨r_4, rfl, hw⟩ := hq
    exact W.iret hx hb hr (mw_end hP hSt hTb hS ⟨_, rfl, hw⟩) hS.2.2 dX10_ofCell_22
  refine lv_iload_n hx hb dX10_ofCell_0 rfl (lv_at hl 1 rfl) ?_
  refine mw_Sx (As := [.int a1]) (rest := []) (n := 1) ⟨hx, hb, hml, hown, hts⟩ (so_X10_isCell l G a1 M _ hw) wm_RX10_54 wt_yX10_isCell wn_RX10 wc_yX10_isCell (by decide) ⟨Nat.le_of_ble_eq_true rfl, Nat.le_of_ble_eq_true rfl⟩ ⟨rfl, rfl⟩ hSt hTb hP hS rfl hl.1 rfl (Nat.le_of_ble_eq_true rfl) dX10_ofCell_1 ⟨Nat.le_refl 0, Nat.le_refl 0⟩ (fun rr_ M_5 H locs hq hP hS => ?_)
  obtain ⟨r_6, rfl, hw⟩ := hq
  refine lv_if_eq (tgt := 16) hx hb dX10_ofCell_4 (by decide) (fun c_7 => ?_) (fun c_7 => ?_)
  · have hw := hw.1 c_7
    exact J_16 M_5 _ _ _ hw hP hS (lv_sub hl [0] rfl)
  · have hw := hw.2 c_7
    refine lv_iload_n hx hb dX10_ofCell_7 rfl (lv_at hl 2 rfl) ?_
    refine lv_iconst (v := 0) hx hb dX10_ofCell_8 (by decide) ?_
    refine lv_iconst (v := 2) hx hb dX10_ofCell_9 (by decide) ?_
    refine mw_Sx (As := [.int a2, .int 0, .int 2]) (rest := []) (n := 3) ⟨hx, hb, hml, hown, hts⟩ (so_X10_in l G a2 0 2 M_5 _ hw) wm_RX10_50 wt_yX10_in wn_RX10 wc_yX10_in (by decide) ⟨Nat.le_of_ble_eq_true rfl, Nat.le_of_ble_eq_true rfl⟩ ⟨rfl, rfl⟩ hSt hTb hP hS rfl hl.1 rfl (Nat.le_of_ble_eq_true rfl) dX10_ofCell_10 ⟨Nat.le_refl 0, Nat.le_refl 0⟩ (fun rr_ M_8 H locs hq hP hS => ?_)
    obtain ⟨r_9, rfl, hw⟩ := hq
    refine lv_if_ne (tgt := 23) hx hb dX10_ofCell_13 (by decide) (fun c_10 => ?_) (fun c_10 => ?_)
    · have hw := hw.1 c_10
      refine lv_iload_n hx hb dX10_ofCell_23 rfl (lv_at hl 2 rfl) ?_
      refine lv_if_ne (tgt := 39) hx hb dX10_ofCell_24 (by decide) (fun c_11 => ?_) (fun c_11 => ?_)
      · have hw := hw.1 c_11
        refine lv_aload_n hx hb dX10_ofCell_39 rfl (lv_at hl 0 rfl) ?_
        refine lv_iload_n hx hb dX10_ofCell_40 rfl (lv_at hl 1 rfl) ?_
        refine lv_iload_n hx hb dX10_ofCell_41 rfl (lv_at hl 2 rfl) ?_
        refine lv_iconst (v := 2) hx hb dX10_ofCell_42 (by decide) ?_
        refine lv_icmp_ne (tgt := 50) hx hb dX10_ofCell_43 (by decide) (fun c_12 => ?_) (fun c_12 => ?_)
        · have hw := hw.1 c_12
          refine lv_iconst (v := 0) hx hb dX10_ofCell_50 (by decide) ?_
          exact J_51 h a1 0 M_8 _ _ _ kh hw hP hS (lv_sub hl [0] rfl)
        · have hw := hw.2 c_12
          refine lv_iconst (v := 1) hx hb dX10_ofCell_46 (by decide) ?_
          refine lv_goto (tgt := 51) hx hb dX10_ofCell_47 (by decide) ?_
          exact J_51 h a1 1 M_8 _ _ _ kh hw hP hS (lv_sub hl [0] rfl)
      · have hw := hw.2 c_11
        refine lv_aload_n hx hb dX10_ofCell_27 rfl (lv_at hl 0 rfl) ?_
        refine mw_get (ci := 10) (v := .ref (G.1 + (h + 1))) (C := RX10) (T := TX10) (N := 25) hx hb ht inX10 hown hSt hP kh (by decide) (mk10 kh) rfl 0 (by decide) (ht _ wf_RX10_7) rfl rfl dX10_ofCell_28 ?_
        refine lv_bipush (v := 8) hx hb dX10_ofCell_31 (by decide) ?_
        refine lv_iload_n hx hb dX10_ofCell_33 rfl (lv_at hl 1 rfl) ?_
        refine lv_iadd hx hb dX10_ofCell_34 ?_
        obtain ⟨c_13, hw⟩ := hw
        refine mw_iald hx hb hSt hP (ks10_0 kh) (by rw [(ln10_0 kh)]; exact c_13) dX10_ofCell_35 ?_
        refine lv_goto (tgt := 54) hx hb dX10_ofCell_36 (by decide) ?_
        exact W.iret hx hb hr (mw_end hP hSt hTb hS ⟨_, rfl, hw⟩) hS.2.2 dX10_ofCell_54
    · have hw := hw.2 c_10
      exact J_16 M_8 _ _ _ hw hP hS (lv_sub hl [0] rfl)
def b_X10_seeker_17 (h : Nat) (Q : Int32 → Mem → Prop) (M : Mem) : Prop :=
  wp_X10_errs h (-1000000001) M (fun r_2 M_1 => Q r_2 M_1)
def wp_X10_seeker (h : Nat) (a1 : Int32) (a2 : Int32) (M : Mem) (Q : Int32 → Mem → Prop) : Prop :=
  kdT h = 10 ∧ (wp_X10_isCell a1 M (fun r_4 M_3 => (r_4 = 0 → b_X10_seeker_17 h Q M_3) ∧ (¬ r_4 = 0 → wp_X10_in a2 0 99 M_3 (fun r_7 M_6 => (¬ r_7 = 0 → (¬ (M_6 (h + 1) 3) = 6 → ∀ x_12, x_12 = M_6 (h + 1) 3 → vp_in (18 + (2 * x_12)) 242 ∧ ∀ M_14, M_14 = mu M_6 (h + 1) (18 + (2 * x_12)).toNatClampNeg a1 → vp_in ((18 + (2 * x_12)) + 1) 242 ∧ ∀ M_16, M_16 = mu M_14 (h + 1) ((18 + (2 * x_12)) + 1).toNatClampNeg a2 → ∀ M_19, M_19 = mu M_16 (h + 1) 3 ((M_16 (h + 1) 3) + 1) → Q x_12 M_19) ∧ ((M_6 (h + 1) 3) = 6 → wp_X10_errs h (-1000000004) M_6 (fun r_21 M_20 => Q r_21 M_20))) ∧ (r_7 = 0 → b_X10_seeker_17 h Q M_6)))))
set_option maxHeartbeats 4000000 in
set_option maxRecDepth 100000 in
theorem so_X10_seeker (l : Launch) (G : Gm) (h : Nat) (a1 : Int32) (a2 : Int32) (M : Mem) (Q : Int32 → Mem → Prop) (hw : wp_X10_seeker h a1 a2 M Q) : Ct l G yX10_seeker cX10_seeker 4 (some .int) ({ frames := 2, cells := 0, slots := 0, locals := 42 } : Room) [.ref (G.1 + h), .int a1, .int a2] M (Qi Q) := by
  unfold wp_X10_seeker at hw
  obtain ⟨kh, hw⟩ := hw
  refine ct_of (by decide) (Nat.le_of_ble_eq_true rfl) ?_
  intro p e s m below meth c E_ ls H hl hP hS
  obtain ⟨hx, hb, hml, hown, hts, ht, hr, hlocks, hSt, hTb⟩ := E_
  have hl : lv_has ls 4 [(0, .ref (G.1 + h)), (1, .int a1), (2, .int a2)] := hl
  have J_17 : ∀  (M : Mem) (H : Heap) (locs : List Loc) (ls : Array Slot), b_X10_seeker_17 h Q M → va_P G.2.1 clsA (wl G M) H → va_S (inW G) s.heap H locs → lv_has ls 4 [(0, .ref (G.1 + h))] → W p l e ({ frames := 2, cells := 0, slots := 0, locals := 42 } : Room) s m ([.ref (G.1 + h), .int a1, .int a2] : List Value).toArray below meth c H locs 0 0 (MQ below (Pq G (Qi Q)) ([.ref (G.1 + h), .int a1, .int a2] : List Value).toArray s 0 0 (inW G)) (F0 m 17 ls []) := by
    intro  M H locs ls  hw hP hS hl
    unfold b_X10_seeker_17 at hw
    refine lv_aload_n hx hb dX10_seeker_17 rfl (lv_at hl 0 rfl) ?_
    refine lv_ldc (v := (-1000000001)) hx hb hown (ht _ wk_RX10_62) dX10_seeker_18 ?_
    refine mw_V (As := [.int (-1000000001)]) (rest := []) (T := TX10) (N := 25) (n := 1) ⟨hx, hb, hml, hown, hts⟩ (so_X10_errs l G h (-1000000001) M _ hw) wm_RX10_63 wi_yX10_errs wv_yX10_errs wn_RX10 wc_yX10_errs (by decide) ⟨Nat.le_of_ble_eq_true rfl, Nat.le_of_ble_eq_true rfl⟩ ⟨rfl, rfl⟩ kh (by decide) (mk10 kh) rfl hSt hTb hP hS rfl hl.1 rfl (Nat.le_of_ble_eq_true rfl) dX10_seeker_20 ⟨Nat.le_refl 0, Nat.le_refl 0⟩ (fun rr_ M_1 H locs hq hP hS => ?_)
    obtain ⟨r_2, rfl, hw⟩ := hq
    exact W.iret hx hb hr (mw_end hP hSt hTb hS ⟨_, rfl, hw⟩) hS.2.2 dX10_seeker_23
  refine lv_iload_n hx hb dX10_seeker_0 rfl (lv_at hl 1 rfl) ?_
  refine mw_Sx (As := [.int a1]) (rest := []) (n := 1) ⟨hx, hb, hml, hown, hts⟩ (so_X10_isCell l G a1 M _ hw) wm_RX10_54 wt_yX10_isCell wn_RX10 wc_yX10_isCell (by decide) ⟨Nat.le_of_ble_eq_true rfl, Nat.le_of_ble_eq_true rfl⟩ ⟨rfl, rfl⟩ hSt hTb hP hS rfl hl.1 rfl (Nat.le_of_ble_eq_true rfl) dX10_seeker_1 ⟨Nat.le_refl 0, Nat.le_refl 0⟩ (fun rr_ M_3 H locs hq hP hS => ?_)
  obtain ⟨r_4, rfl, hw⟩ := hq
  refine lv_if_eq (tgt := 17) hx hb dX10_seeker_4 (by decide) (fun c_5 => ?_) (fun c_5 => ?_)
  · have hw := hw.1 c_5
    exact J_17 M_3 _ _ _ hw hP hS (lv_sub hl [0] rfl)
  · have hw := hw.2 c_5
    refine lv_iload_n hx hb dX10_seeker_7 rfl (lv_at hl 2 rfl) ?_
    refine lv_iconst (v := 0) hx hb dX10_seeker_8 (by decide) ?_
    refine lv_bipush (v := 99) hx hb dX10_seeker_9 (by decide) ?_
    refine mw_Sx (As := [.int a2, .int 0, .int 99]) (rest := []) (n := 3) ⟨hx, hb, hml, hown, hts⟩ (so_X10_in l G a2 0 99 M_3 _ hw) wm_RX10_50 wt_yX10_in wn_RX10 wc_yX10_in (by decide) ⟨Nat.le_of_ble_eq_true rfl, Nat.le_of_ble_eq_true rfl⟩ ⟨rfl, rfl⟩ hSt hTb hP hS rfl hl.1 rfl (Nat.le_of_ble_eq_true rfl) dX10_seeker_11 ⟨Nat.le_refl 0, Nat.le_refl 0⟩ (fun rr_ M_6 H locs hq hP hS => ?_)
    obtain ⟨r_7, rfl, hw⟩ := hq
    refine lv_if_ne (tgt := 24) hx hb dX10_seeker_14 (by decide) (fun c_8 => ?_) (fun c_8 => ?_)
    · have hw := hw.1 c_8
      refine lv_aload_n hx hb dX10_seeker_24 rfl (lv_at hl 0 rfl) ?_
      refine mw_get (ci := 10) (v := .ref (G.1 + (h + 1))) (C := RX10) (T := TX10) (N := 25) hx hb ht inX10 hown hSt hP kh (by decide) (mk10 kh) rfl 0 (by decide) (ht _ wf_RX10_7) rfl rfl dX10_seeker_25 ?_
      refine lv_iconst (v := 3) hx hb dX10_seeker_28 (by decide) ?_
      refine mw_ialdc hx hb hSt hP (ks10_0 kh) (ln10_0 kh) 3 (by decide) dX10_seeker_29 ?_
      refine lv_bipush (v := 6) hx hb dX10_seeker_30 (by decide) ?_
      refine lv_icmp_ne (tgt := 42) hx hb dX10_seeker_32 (by decide) (fun c_10 => ?_) (fun c_10 => ?_)
      · have hw := hw.1 c_10
        refine lv_aload_n hx hb dX10_seeker_42 rfl (lv_at hl 0 rfl) ?_
        refine mw_get (ci := 10) (v := .ref (G.1 + (h + 1))) (C := RX10) (T := TX10) (N := 25) hx hb ht inX10 hown hSt hP kh (by decide) (mk10 kh) rfl 0 (by decide) (ht _ wf_RX10_7) rfl rfl dX10_seeker_43 ?_
        refine lv_iconst (v := 3) hx hb dX10_seeker_46 (by decide) ?_
        refine mw_ialdc hx hb hSt hP (ks10_0 kh) (ln10_0 kh) 3 (by decide) dX10_seeker_47 ?_
        refine lv_topi (fun x_12 ex_12 => ?_)
        have hw := hw x_12 ex_12
        refine lv_istore_n (lv' := [(3, .int x_12), (0, .ref (G.1 + h)), (1, .int a1), (2, .int a2)]) hx hb dX10_seeker_48 rfl hl (by decide) rfl (fun ls hl => ?_)
        refine lv_aload_n hx hb dX10_seeker_49 rfl (lv_at hl 1 rfl) ?_
        refine mw_get (ci := 10) (v := .ref (G.1 + (h + 1))) (C := RX10) (T := TX10) (N := 25) hx hb ht inX10 hown hSt hP kh (by decide) (mk10 kh) rfl 0 (by decide) (ht _ wf_RX10_7) rfl rfl dX10_seeker_50 ?_
        refine lv_bipush (v := 18) hx hb dX10_seeker_53 (by decide) ?_
        refine lv_iconst (v := 2) hx hb dX10_seeker_55 (by decide) ?_
        refine lv_iload_n hx hb dX10_seeker_56 rfl (lv_at hl 0 rfl) ?_
        refine lv_imul hx hb dX10_seeker_57 ?_
        refine lv_iadd hx hb dX10_seeker_58 ?_
        refine lv_iload_n hx hb dX10_seeker_59 rfl (lv_at hl 2 rfl) ?_
        obtain ⟨c_13, hw⟩ := hw
        refine mw_iast hx hb hSt hP hS (ks10_0 kh) (by rw [(ln10_0 kh)]; exact c_13) dX10_seeker_60 (fun M_14 H locs eM_14 hP hS => ?_)
        have hw := hw M_14 eM_14
        refine lv_aload_n hx hb dX10_seeker_61 rfl (lv_at hl 1 rfl) ?_
        refine mw_get (ci := 10) (v := .ref (G.1 + (h + 1))) (C := RX10) (T := TX10) (N := 25) hx hb ht inX10 hown hSt hP kh (by decide) (mk10 kh) rfl 0 (by decide) (ht _ wf_RX10_7) rfl rfl dX10_seeker_62 ?_
        refine lv_bipush (v := 18) hx hb dX10_seeker_65 (by decide) ?_
        refine lv_iconst (v := 2) hx hb dX10_seeker_67 (by decide) ?_
        refine lv_iload_n hx hb dX10_seeker_68 rfl (lv_at hl 0 rfl) ?_
        refine lv_imul hx hb dX10_seeker_69 ?_
        refine lv_iadd hx hb dX10_seeker_70 ?_
        refine lv_iconst (v := 1) hx hb dX10_seeker_71 (by decide) ?_
        refine lv_iadd hx hb dX10_seeker_72 ?_
        refine lv_iload_n hx hb dX10_seeker_73 rfl (lv_at hl 3 rfl) ?_
        obtain ⟨c_15, hw⟩ := hw
        refine mw_iast hx hb hSt hP hS (ks10_0 kh) (by rw [(ln10_0 kh)]; exact c_15) dX10_seeker_74 (fun M_16 H locs eM_16 hP hS => ?_)
        have hw := hw M_16 eM_16
        refine lv_aload_n hx hb dX10_seeker_75 rfl (lv_at hl 1 rfl) ?_
        refine mw_get (ci := 10) (v := .ref (G.1 + (h + 1))) (C := RX10) (T := TX10) (N := 25) hx hb ht inX10 hown hSt hP kh (by decide) (mk10 kh) rfl 0 (by decide) (ht _ wf_RX10_7) rfl rfl dX10_seeker_76 ?_
        refine lv_iconst (v := 3) hx hb dX10_seeker_79 (by decide) ?_
        refine lv_dup2_11 hx hb dX10_seeker_80 rfl rfl ?_
        refine mw_ialdc hx hb hSt hP (ks10_0 kh) (ln10_0 kh) 3 (by decide) dX10_seeker_81 ?_
        refine lv_iconst (v := 1) hx hb dX10_seeker_82 (by decide) ?_
        refine lv_iadd hx hb dX10_seeker_83 ?_
        refine mw_iastc hx hb hSt hP hS (ks10_0 kh) (ln10_0 kh) 3 (by decide) dX10_seeker_84 (fun M_19 H locs eM_19 hP hS => ?_)
        have hw := hw M_19 eM_19
        refine lv_iload_n hx hb dX10_seeker_85 rfl (lv_at hl 0 rfl) ?_
        exact W.iret hx hb hr (mw_end hP hSt hTb hS ⟨_, rfl, hw⟩) hS.2.2 dX10_seeker_86
      · have hw := hw.2 c_10
        refine lv_aload_n hx hb dX10_seeker_35 rfl (lv_at hl 0 rfl) ?_
        refine lv_ldc (v := (-1000000004)) hx hb hown (ht _ wk_RX10_77) dX10_seeker_36 ?_
        refine mw_V (As := [.int (-1000000004)]) (rest := []) (T := TX10) (N := 25) (n := 1) ⟨hx, hb, hml, hown, hts⟩ (so_X10_errs l G h (-1000000004) M_6 _ hw) wm_RX10_63 wi_yX10_errs wv_yX10_errs wn_RX10 wc_yX10_errs (by decide) ⟨Nat.le_of_ble_eq_true rfl, Nat.le_of_ble_eq_true rfl⟩ ⟨rfl, rfl⟩ kh (by decide) (mk10 kh) rfl hSt hTb hP hS rfl hl.1 rfl (Nat.le_of_ble_eq_true rfl) dX10_seeker_38 ⟨Nat.le_refl 0, Nat.le_refl 0⟩ (fun rr_ M_20 H locs hq hP hS => ?_)
        obtain ⟨r_21, rfl, hw⟩ := hq
        exact W.iret hx hb hr (mw_end hP hSt hTb hS ⟨_, rfl, hw⟩) hS.2.2 dX10_seeker_41
    · have hw := hw.2 c_8
      exact J_17 M_6 _ _ _ hw hP hS (lv_sub hl [0] rfl)
def wp_X10_isSeeker (h : Nat) (a1 : Int32) (M : Mem) (Q : Int32 → Mem → Prop) : Prop :=
  kdT h = 10 ∧ (wp_X10_in a1 0 ((M (h + 1) 3) - 1) M (fun r_3 M_2 => isb r_3 ∧ Q r_3 M_2))
set_option maxHeartbeats 4000000 in
set_option maxRecDepth 100000 in
theorem so_X10_isSeeker (l : Launch) (G : Gm) (h : Nat) (a1 : Int32) (M : Mem) (Q : Int32 → Mem → Prop) (hw : wp_X10_isSeeker h a1 M Q) : Ct l G yX10_isSeeker cX10_isSeeker 2 (some .boolean) ({ frames := 1, cells := 0, slots := 0, locals := 22 } : Room) [.ref (G.1 + h), .int a1] M (Qi Q) := by
  unfold wp_X10_isSeeker at hw
  obtain ⟨kh, hw⟩ := hw
  refine ct_of (by decide) (Nat.le_of_ble_eq_true rfl) ?_
  intro p e s m below meth c E_ ls H hl hP hS
  obtain ⟨hx, hb, hml, hown, hts, ht, hr, hlocks, hSt, hTb⟩ := E_
  have hl : lv_has ls 2 [(0, .ref (G.1 + h)), (1, .int a1)] := hl
  refine lv_iload_n hx hb dX10_isSeeker_0 rfl (lv_at hl 1 rfl) ?_
  refine lv_iconst (v := 0) hx hb dX10_isSeeker_1 (by decide) ?_
  refine lv_aload_n hx hb dX10_isSeeker_2 rfl (lv_at hl 0 rfl) ?_
  refine mw_get (ci := 10) (v := .ref (G.1 + (h + 1))) (C := RX10) (T := TX10) (N := 25) hx hb ht inX10 hown hSt hP kh (by decide) (mk10 kh) rfl 0 (by decide) (ht _ wf_RX10_7) rfl rfl dX10_isSeeker_3 ?_
  refine lv_iconst (v := 3) hx hb dX10_isSeeker_6 (by decide) ?_
  refine mw_ialdc hx hb hSt hP (ks10_0 kh) (ln10_0 kh) 3 (by decide) dX10_isSeeker_7 ?_
  refine lv_iconst (v := 1) hx hb dX10_isSeeker_8 (by decide) ?_
  refine lv_isub hx hb dX10_isSeeker_9 ?_
  refine mw_Sx (As := [.int a1, .int 0, .int ((M (h + 1) 3) - 1)]) (rest := []) (n := 3) ⟨hx, hb, hml, hown, hts⟩ (so_X10_in l G a1 0 ((M (h + 1) 3) - 1) M _ hw) wm_RX10_50 wt_yX10_in wn_RX10 wc_yX10_in (by decide) ⟨Nat.le_of_ble_eq_true rfl, Nat.le_of_ble_eq_true rfl⟩ ⟨rfl, rfl⟩ hSt hTb hP hS rfl hl.1 rfl (Nat.le_of_ble_eq_true rfl) dX10_isSeeker_10 ⟨Nat.le_refl 0, Nat.le_refl 0⟩ (fun rr_ M_2 H locs hq hP hS => ?_)
  obtain ⟨r_3, rfl, hw⟩ := hq
  obtain ⟨c_4, hw⟩ := hw
  exact W.zret hx hb hr c_4.narrow (mw_end hP hSt hTb hS ⟨_, rfl, hw⟩) hS.2.2 dX10_isSeeker_13
def wp_X10_apart (a0 : Int32) (a1 : Int32) (M : Mem) (Q : Int32 → Mem → Prop) : Prop :=
  (a1 ≤ a0 → Q (a0 - a1) M) ∧ (¬ a1 ≤ a0 → Q (a1 - a0) M)
set_option maxHeartbeats 4000000 in
set_option maxRecDepth 100000 in
theorem so_X10_apart (l : Launch) (G : Gm) (a0 : Int32) (a1 : Int32) (M : Mem) (Q : Int32 → Mem → Prop) (hw : wp_X10_apart a0 a1 M Q) : Ct l G yX10_apart cX10_apart 2 (some .int) ({ frames := 0, cells := 0, slots := 0, locals := 0 } : Room) [.int a0, .int a1] M (Qi Q) := by
  unfold wp_X10_apart at hw
  refine ct_of (by decide) (Nat.le_of_ble_eq_true rfl) ?_
  intro p e s m below meth c E_ ls H hl hP hS
  obtain ⟨hx, hb, hml, hown, hts, ht, hr, hlocks, hSt, hTb⟩ := E_
  have hl : lv_has ls 2 [(0, .int a0), (1, .int a1)] := hl
  refine lv_iload_n hx hb dX10_apart_0 rfl (lv_at hl 0 rfl) ?_
  refine lv_iload_n hx hb dX10_apart_1 rfl (lv_at hl 1 rfl) ?_
  refine lv_icmp_ge (tgt := 11) hx hb dX10_apart_2 (by decide) (fun c_1 => ?_) (fun c_1 => ?_)
  · have hw := hw.1 c_1
    refine lv_iload_n hx hb dX10_apart_11 rfl (lv_at hl 0 rfl) ?_
    refine lv_iload_n hx hb dX10_apart_12 rfl (lv_at hl 1 rfl) ?_
    refine lv_isub hx hb dX10_apart_13 ?_
    exact W.iret hx hb hr (mw_end hP hSt hTb hS ⟨_, rfl, hw⟩) hS.2.2 dX10_apart_14
  · have hw := hw.2 c_1
    refine lv_iload_n hx hb dX10_apart_5 rfl (lv_at hl 1 rfl) ?_
    refine lv_iload_n hx hb dX10_apart_6 rfl (lv_at hl 0 rfl) ?_
    refine lv_isub hx hb dX10_apart_7 ?_
    refine lv_goto (tgt := 14) hx hb dX10_apart_8 (by decide) ?_
    exact W.iret hx hb hr (mw_end hP hSt hTb hS ⟨_, rfl, hw⟩) hS.2.2 dX10_apart_14
def wp_X10_isLost (h : Nat) (a1 : Int32) (M : Mem) (Q : Int32 → Mem → Prop) : Prop :=
  kdT h = 10 ∧ (wp_X10_its h a1 5 M (fun r_2 M_1 => (¬ r_2 = 0 → Q 0 M_1) ∧ (r_2 = 0 → wp_X10_its h a1 3 M_1 (fun r_5 M_4 => (¬ r_5 = 0 → Q 0 M_4) ∧ (r_5 = 0 → Q 1 M_4)))))
set_option maxHeartbeats 4000000 in
set_option maxRecDepth 100000 in
theorem so_X10_isLost (l : Launch) (G : Gm) (h : Nat) (a1 : Int32) (M : Mem) (Q : Int32 → Mem → Prop) (hw : wp_X10_isLost h a1 M Q) : Ct l G yX10_isLost cX10_isLost 2 (some .boolean) ({ frames := 1, cells := 0, slots := 0, locals := 22 } : Room) [.ref (G.1 + h), .int a1] M (Qi Q) := by
  unfold wp_X10_isLost at hw
  obtain ⟨kh, hw⟩ := hw
  refine ct_of (by decide) (Nat.le_of_ble_eq_true rfl) ?_
  intro p e s m below meth c E_ ls H hl hP hS
  obtain ⟨hx, hb, hml, hown, hts, ht, hr, hlocks, hSt, hTb⟩ := E_
  have hl : lv_has ls 2 [(0, .ref (G.1 + h)), (1, .int a1)] := hl
  refine lv_aload_n hx hb dX10_isLost_0 rfl (lv_at hl 0 rfl) ?_
  refine lv_iload_n hx hb dX10_isLost_1 rfl (lv_at hl 1 rfl) ?_
  refine lv_iconst (v := 5) hx hb dX10_isLost_2 (by decide) ?_
  refine mw_V (As := [.int a1, .int 5]) (rest := []) (T := TX10) (N := 25) (n := 2) ⟨hx, hb, hml, hown, hts⟩ (so_X10_its l G h a1 5 M _ hw) wm_RX10_67 wi_yX10_its wv_yX10_its wn_RX10 wc_yX10_its (by decide) ⟨Nat.le_of_ble_eq_true rfl, Nat.le_of_ble_eq_true rfl⟩ ⟨rfl, rfl⟩ kh (by decide) (mk10 kh) rfl hSt hTb hP hS rfl hl.1 rfl (Nat.le_of_ble_eq_true rfl) dX10_isLost_3 ⟨Nat.le_refl 0, Nat.le_refl 0⟩ (fun rr_ M_1 H locs hq hP hS => ?_)
  obtain ⟨r_2, rfl, hw⟩ := hq
  refine lv_if_ne (tgt := 22) hx hb dX10_isLost_6 (by decide) (fun c_3 => ?_) (fun c_3 => ?_)
  · have hw := hw.1 c_3
    refine lv_iconst (v := 0) hx hb dX10_isLost_22 (by decide) ?_
    exact W.zret (v := 0) hx hb hr (by decide) (mw_end hP hSt hTb hS ⟨_, rfl, hw⟩) hS.2.2 dX10_isLost_23
  · have hw := hw.2 c_3
    refine lv_aload_n hx hb dX10_isLost_9 rfl (lv_at hl 0 rfl) ?_
    refine lv_iload_n hx hb dX10_isLost_10 rfl (lv_at hl 1 rfl) ?_
    refine lv_iconst (v := 3) hx hb dX10_isLost_11 (by decide) ?_
    refine mw_V (As := [.int a1, .int 3]) (rest := []) (T := TX10) (N := 25) (n := 2) ⟨hx, hb, hml, hown, hts⟩ (so_X10_its l G h a1 3 M_1 _ hw) wm_RX10_67 wi_yX10_its wv_yX10_its wn_RX10 wc_yX10_its (by decide) ⟨Nat.le_of_ble_eq_true rfl, Nat.le_of_ble_eq_true rfl⟩ ⟨rfl, rfl⟩ kh (by decide) (mk10 kh) rfl hSt hTb hP hS rfl hl.1 rfl (Nat.le_of_ble_eq_true rfl) dX10_isLost_12 ⟨Nat.le_refl 0, Nat.le_refl 0⟩ (fun rr_ M_4 H locs hq hP hS => ?_)
    obtain ⟨r_5, rfl, hw⟩ := hq
    refine lv_if_ne (tgt := 22) hx hb dX10_isLost_15 (by decide) (fun c_6 => ?_) (fun c_6 => ?_)
    · have hw := hw.1 c_6
      refine lv_iconst (v := 0) hx hb dX10_isLost_22 (by decide) ?_
      exact W.zret (v := 0) hx hb hr (by decide) (mw_end hP hSt hTb hS ⟨_, rfl, hw⟩) hS.2.2 dX10_isLost_23
    · have hw := hw.2 c_6
      refine lv_iconst (v := 1) hx hb dX10_isLost_18 (by decide) ?_
      refine lv_goto (tgt := 23) hx hb dX10_isLost_19 (by decide) ?_
      exact W.zret (v := 1) hx hb hr (by decide) (mw_end hP hSt hTb hS ⟨_, rfl, hw⟩) hS.2.2 dX10_isLost_23
def wp_X10_held (a0 : Int32) (a1 : Int32) (a2 : Int32) (M : Mem) (Q : Int32 → Mem → Prop) : Prop :=
  (a1 ≤ a0 → (a0 ≤ a2 → Q a0 M) ∧ (¬ a0 ≤ a2 → Q a2 M)) ∧ (¬ a1 ≤ a0 → Q a1 M)
set_option maxHeartbeats 4000000 in
set_option maxRecDepth 100000 in
theorem so_X10_held (l : Launch) (G : Gm) (a0 : Int32) (a1 : Int32) (a2 : Int32) (M : Mem) (Q : Int32 → Mem → Prop) (hw : wp_X10_held a0 a1 a2 M Q) : Ct l G yX10_held cX10_held 3 (some .int) ({ frames := 0, cells := 0, slots := 0, locals := 0 } : Room) [.int a0, .int a1, .int a2] M (Qi Q) := by
  unfold wp_X10_held at hw
  refine ct_of (by decide) (Nat.le_of_ble_eq_true rfl) ?_
  intro p e s m below meth c E_ ls H hl hP hS
  obtain ⟨hx, hb, hml, hown, hts, ht, hr, hlocks, hSt, hTb⟩ := E_
  have hl : lv_has ls 3 [(0, .int a0), (1, .int a1), (2, .int a2)] := hl
  refine lv_iload_n hx hb dX10_held_0 rfl (lv_at hl 0 rfl) ?_
  refine lv_iload_n hx hb dX10_held_1 rfl (lv_at hl 1 rfl) ?_
  refine lv_icmp_ge (tgt := 9) hx hb dX10_held_2 (by decide) (fun c_1 => ?_) (fun c_1 => ?_)
  · have hw := hw.1 c_1
    refine lv_iload_n hx hb dX10_held_9 rfl (lv_at hl 0 rfl) ?_
    refine lv_iload_n hx hb dX10_held_10 rfl (lv_at hl 2 rfl) ?_
    refine lv_icmp_le (tgt := 18) hx hb dX10_held_11 (by decide) (fun c_2 => ?_) (fun c_2 => ?_)
    · have hw := hw.1 c_2
      refine lv_iload_n hx hb dX10_held_18 rfl (lv_at hl 0 rfl) ?_
      exact W.iret hx hb hr (mw_end hP hSt hTb hS ⟨_, rfl, hw⟩) hS.2.2 dX10_held_19
    · have hw := hw.2 c_2
      refine lv_iload_n hx hb dX10_held_14 rfl (lv_at hl 2 rfl) ?_
      refine lv_goto (tgt := 19) hx hb dX10_held_15 (by decide) ?_
      exact W.iret hx hb hr (mw_end hP hSt hTb hS ⟨_, rfl, hw⟩) hS.2.2 dX10_held_19
  · have hw := hw.2 c_1
    refine lv_iload_n hx hb dX10_held_5 rfl (lv_at hl 1 rfl) ?_
    refine lv_goto (tgt := 19) hx hb dX10_held_6 (by decide) ?_
    exact W.iret hx hb hr (mw_end hP hSt hTb hS ⟨_, rfl, hw⟩) hS.2.2 dX10_held_19
def wp_X10_workedOut (a0 : Int32) (a1 : Int32) (a2 : Int32) (M : Mem) (Q : Int32 → Mem → Prop) : Prop :=
  (a0 = 37 → (¬ a2 = 0 → ¬ a2 = 0 ∧ (Q (irm a1 a2) M)) ∧ (a2 = 0 → Q 0 M)) ∧ (a0 = 38 → (a1 = 0 → Q 0 M) ∧ (¬ a1 = 0 → (a2 = 0 → Q 0 M) ∧ (¬ a2 = 0 → Q 1 M))) ∧ (a0 = 42 → Q (a1 * a2) M) ∧ (a0 = 43 → Q (a1 + a2) M) ∧ (a0 = 45 → Q (a1 - a2) M) ∧ (a0 = 47 → (¬ a2 = 0 → ¬ a2 = 0 ∧ (Q (a1 / a2) M)) ∧ (a2 = 0 → Q 0 M)) ∧ (a0 = 60 → (a2 ≤ a1 → Q 0 M) ∧ (¬ a2 ≤ a1 → Q 1 M)) ∧ (a0 = 61 → (¬ a1 = a2 → Q 0 M) ∧ (a1 = a2 → Q 1 M)) ∧ (a0 = 62 → (a1 ≤ a2 → Q 0 M) ∧ (¬ a1 ≤ a2 → Q 1 M)) ∧ (¬ a0 = 37 → ¬ a0 = 38 → ¬ a0 = 42 → ¬ a0 = 43 → ¬ a0 = 45 → ¬ a0 = 47 → ¬ a0 = 60 → ¬ a0 = 61 → ¬ a0 = 62 → (¬ a1 = 0 → Q 1 M) ∧ (a1 = 0 → (a2 = 0 → Q 0 M) ∧ (¬ a2 = 0 → Q 1 M)))
set_option maxHeartbeats 4000000 in
set_option maxRecDepth 100000 in
theorem so_X10_workedOut (l : Launch) (G : Gm) (a0 : Int32) (a1 : Int32) (a2 : Int32) (M : Mem) (Q : Int32 → Mem → Prop) (hw : wp_X10_workedOut a0 a1 a2 M Q) : Ct l G yX10_workedOut cX10_workedOut 3 (some .int) ({ frames := 0, cells := 0, slots := 0, locals := 0 } : Room) [.int a0, .int a1, .int a2] M (Qi Q) := by
  unfold wp_X10_workedOut at hw
  refine ct_of (by decide) (Nat.le_of_ble_eq_true rfl) ?_
  intro p e s m below meth c E_ ls H hl hP hS
  obtain ⟨hx, hb, hml, hown, hts, ht, hr, hlocks, hSt, hTb⟩ := E_
  have hl : lv_has ls 3 [(0, .int a0), (1, .int a1), (2, .int a2)] := hl
  refine lv_iload_n hx hb dX10_workedOut_0 rfl (lv_at hl 0 rfl) ?_
  by_cases c_1 : a0 = 37
  · have hw := hw.1 c_1
    refine mw_tcase (tgt := 136) (off := 135) hx hb dX10_workedOut_1 c_1 (by decide) ?_
    refine lv_iload_n hx hb dX10_workedOut_136 rfl (lv_at hl 2 rfl) ?_
    refine lv_if_ne (tgt := 144) hx hb dX10_workedOut_137 (by decide) (fun c_2 => ?_) (fun c_2 => ?_)
    · have hw := hw.1 c_2
      refine lv_iload_n hx hb dX10_workedOut_144 rfl (lv_at hl 1 rfl) ?_
      refine lv_iload_n hx hb dX10_workedOut_145 rfl (lv_at hl 2 rfl) ?_
      obtain ⟨c_3, hw⟩ := hw
      refine lv_irem hx hb dX10_workedOut_146 c_3 ?_
      exact W.iret hx hb hr (mw_end hP hSt hTb hS ⟨_, rfl, hw⟩) hS.2.2 dX10_workedOut_147
    · have hw := hw.2 c_2
      refine lv_iconst (v := 0) hx hb dX10_workedOut_140 (by decide) ?_
      refine lv_goto (tgt := 147) hx hb dX10_workedOut_141 (by decide) ?_
      exact W.iret hx hb hr (mw_end hP hSt hTb hS ⟨_, rfl, hw⟩) hS.2.2 dX10_workedOut_147
  by_cases c_4 : a0 = 38
  · have hw := hw.2.1 c_4
    refine mw_tcase (tgt := 189) (off := 188) hx hb dX10_workedOut_1 c_4 (by decide) ?_
    refine lv_iload_n hx hb dX10_workedOut_189 rfl (lv_at hl 1 rfl) ?_
    refine lv_if_eq (tgt := 201) hx hb dX10_workedOut_190 (by decide) (fun c_5 => ?_) (fun c_5 => ?_)
    · have hw := hw.1 c_5
      refine lv_iconst (v := 0) hx hb dX10_workedOut_201 (by decide) ?_
      exact W.iret hx hb hr (mw_end hP hSt hTb hS ⟨_, rfl, hw⟩) hS.2.2 dX10_workedOut_202
    · have hw := hw.2 c_5
      refine lv_iload_n hx hb dX10_workedOut_193 rfl (lv_at hl 2 rfl) ?_
      refine lv_if_eq (tgt := 201) hx hb dX10_workedOut_194 (by decide) (fun c_6 => ?_) (fun c_6 => ?_)
      · have hw := hw.1 c_6
        refine lv_iconst (v := 0) hx hb dX10_workedOut_201 (by decide) ?_
        exact W.iret hx hb hr (mw_end hP hSt hTb hS ⟨_, rfl, hw⟩) hS.2.2 dX10_workedOut_202
      · have hw := hw.2 c_6
        refine lv_iconst (v := 1) hx hb dX10_workedOut_197 (by decide) ?_
        refine lv_goto (tgt := 202) hx hb dX10_workedOut_198 (by decide) ?_
        exact W.iret hx hb hr (mw_end hP hSt hTb hS ⟨_, rfl, hw⟩) hS.2.2 dX10_workedOut_202
  by_cases c_7 : a0 = 42
  · have hw := hw.2.2.1 c_7
    refine mw_tcase (tgt := 120) (off := 119) hx hb dX10_workedOut_1 c_7 (by decide) ?_
    refine lv_iload_n hx hb dX10_workedOut_120 rfl (lv_at hl 1 rfl) ?_
    refine lv_iload_n hx hb dX10_workedOut_121 rfl (lv_at hl 2 rfl) ?_
    refine lv_imul hx hb dX10_workedOut_122 ?_
    exact W.iret hx hb hr (mw_end hP hSt hTb hS ⟨_, rfl, hw⟩) hS.2.2 dX10_workedOut_123
  by_cases c_8 : a0 = 43
  · have hw := hw.2.2.2.1 c_8
    refine mw_tcase (tgt := 148) (off := 147) hx hb dX10_workedOut_1 c_8 (by decide) ?_
    refine lv_iload_n hx hb dX10_workedOut_148 rfl (lv_at hl 1 rfl) ?_
    refine lv_iload_n hx hb dX10_workedOut_149 rfl (lv_at hl 2 rfl) ?_
    refine lv_iadd hx hb dX10_workedOut_150 ?_
    exact W.iret hx hb hr (mw_end hP hSt hTb hS ⟨_, rfl, hw⟩) hS.2.2 dX10_workedOut_151
  by_cases c_9 : a0 = 45
  · have hw := hw.2.2.2.2.1 c_9
    refine mw_tcase (tgt := 152) (off := 151) hx hb dX10_workedOut_1 c_9 (by decide) ?_
    refine lv_iload_n hx hb dX10_workedOut_152 rfl (lv_at hl 1 rfl) ?_
    refine lv_iload_n hx hb dX10_workedOut_153 rfl (lv_at hl 2 rfl) ?_
    refine lv_isub hx hb dX10_workedOut_154 ?_
    exact W.iret hx hb hr (mw_end hP hSt hTb hS ⟨_, rfl, hw⟩) hS.2.2 dX10_workedOut_155
  by_cases c_10 : a0 = 47
  · have hw := hw.2.2.2.2.2.1 c_10
    refine mw_tcase (tgt := 124) (off := 123) hx hb dX10_workedOut_1 c_10 (by decide) ?_
    refine lv_iload_n hx hb dX10_workedOut_124 rfl (lv_at hl 2 rfl) ?_
    refine lv_if_ne (tgt := 132) hx hb dX10_workedOut_125 (by decide) (fun c_11 => ?_) (fun c_11 => ?_)
    · have hw := hw.1 c_11
      refine lv_iload_n hx hb dX10_workedOut_132 rfl (lv_at hl 1 rfl) ?_
      refine lv_iload_n hx hb dX10_workedOut_133 rfl (lv_at hl 2 rfl) ?_
      obtain ⟨c_12, hw⟩ := hw
      refine lv_idiv hx hb dX10_workedOut_134 c_12 ?_
      exact W.iret hx hb hr (mw_end hP hSt hTb hS ⟨_, rfl, hw⟩) hS.2.2 dX10_workedOut_135
    · have hw := hw.2 c_11
      refine lv_iconst (v := 0) hx hb dX10_workedOut_128 (by decide) ?_
      refine lv_goto (tgt := 135) hx hb dX10_workedOut_129 (by decide) ?_
      exact W.iret hx hb hr (mw_end hP hSt hTb hS ⟨_, rfl, hw⟩) hS.2.2 dX10_workedOut_135
  by_cases c_13 : a0 = 60
  · have hw := hw.2.2.2.2.2.2.1 c_13
    refine mw_tcase (tgt := 156) (off := 155) hx hb dX10_workedOut_1 c_13 (by decide) ?_
    refine lv_iload_n hx hb dX10_workedOut_156 rfl (lv_at hl 1 rfl) ?_
    refine lv_iload_n hx hb dX10_workedOut_157 rfl (lv_at hl 2 rfl) ?_
    refine lv_icmp_ge (tgt := 165) hx hb dX10_workedOut_158 (by decide) (fun c_14 => ?_) (fun c_14 => ?_)
    · have hw := hw.1 c_14
      refine lv_iconst (v := 0) hx hb dX10_workedOut_165 (by decide) ?_
      exact W.iret hx hb hr (mw_end hP hSt hTb hS ⟨_, rfl, hw⟩) hS.2.2 dX10_workedOut_166
    · have hw := hw.2 c_14
      refine lv_iconst (v := 1) hx hb dX10_workedOut_161 (by decide) ?_
      refine lv_goto (tgt := 166) hx hb dX10_workedOut_162 (by decide) ?_
      exact W.iret hx hb hr (mw_end hP hSt hTb hS ⟨_, rfl, hw⟩) hS.2.2 dX10_workedOut_166
  by_cases c_15 : a0 = 61
  · have hw := hw.2.2.2.2.2.2.2.1 c_15
    refine mw_tcase (tgt := 167) (off := 166) hx hb dX10_workedOut_1 c_15 (by decide) ?_
    refine lv_iload_n hx hb dX10_workedOut_167 rfl (lv_at hl 1 rfl) ?_
    refine lv_iload_n hx hb dX10_workedOut_168 rfl (lv_at hl 2 rfl) ?_
    refine lv_icmp_ne (tgt := 176) hx hb dX10_workedOut_169 (by decide) (fun c_16 => ?_) (fun c_16 => ?_)
    · have hw := hw.1 c_16
      refine lv_iconst (v := 0) hx hb dX10_workedOut_176 (by decide) ?_
      exact W.iret hx hb hr (mw_end hP hSt hTb hS ⟨_, rfl, hw⟩) hS.2.2 dX10_workedOut_177
    · have hw := hw.2 c_16
      refine lv_iconst (v := 1) hx hb dX10_workedOut_172 (by decide) ?_
      refine lv_goto (tgt := 177) hx hb dX10_workedOut_173 (by decide) ?_
      exact W.iret hx hb hr (mw_end hP hSt hTb hS ⟨_, rfl, hw⟩) hS.2.2 dX10_workedOut_177
  by_cases c_17 : a0 = 62
  · have hw := hw.2.2.2.2.2.2.2.2.1 c_17
    refine mw_tcase (tgt := 178) (off := 177) hx hb dX10_workedOut_1 c_17 (by decide) ?_
    refine lv_iload_n hx hb dX10_workedOut_178 rfl (lv_at hl 1 rfl) ?_
    refine lv_iload_n hx hb dX10_workedOut_179 rfl (lv_at hl 2 rfl) ?_
    refine lv_icmp_le (tgt := 187) hx hb dX10_workedOut_180 (by decide) (fun c_18 => ?_) (fun c_18 => ?_)
    · have hw := hw.1 c_18
      refine lv_iconst (v := 0) hx hb dX10_workedOut_187 (by decide) ?_
      exact W.iret hx hb hr (mw_end hP hSt hTb hS ⟨_, rfl, hw⟩) hS.2.2 dX10_workedOut_188
    · have hw := hw.2 c_18
      refine lv_iconst (v := 1) hx hb dX10_workedOut_183 (by decide) ?_
      refine lv_goto (tgt := 188) hx hb dX10_workedOut_184 (by decide) ?_
      exact W.iret hx hb hr (mw_end hP hSt hTb hS ⟨_, rfl, hw⟩) hS.2.2 dX10_workedOut_188
  have hw := hw.2.2.2.2.2.2.2.2.2 c_1 c_4 c_7 c_8 c_9 c_10 c_13 c_15 c_17
  refine mw_tdef (keys := [37, 38, 42, 43, 45, 47, 60, 61, 62]) (tgt := 203) hx hb dX10_workedOut_1 (List.forall_mem_cons.mpr ⟨c_1, (List.forall_mem_cons.mpr ⟨c_4, (List.forall_mem_cons.mpr ⟨c_7, (List.forall_mem_cons.mpr ⟨c_8, (List.forall_mem_cons.mpr ⟨c_9, (List.forall_mem_cons.mpr ⟨c_10, (List.forall_mem_cons.mpr ⟨c_13, (List.forall_mem_cons.mpr ⟨c_15, (List.forall_mem_cons.mpr ⟨c_17, (fun _ h_ => absurd h_ List.not_mem_nil)⟩)⟩)⟩)⟩)⟩)⟩)⟩)⟩)⟩) (by decide) (by decide) ?_
  refine lv_iload_n hx hb dX10_workedOut_203 rfl (lv_at hl 1 rfl) ?_
  refine lv_if_ne (tgt := 211) hx hb dX10_workedOut_204 (by decide) (fun c_19 => ?_) (fun c_19 => ?_)
  · have hw := hw.1 c_19
    refine lv_iconst (v := 1) hx hb dX10_workedOut_211 (by decide) ?_
    refine lv_goto (tgt := 216) hx hb dX10_workedOut_212 (by decide) ?_
    exact W.iret hx hb hr (mw_end hP hSt hTb hS ⟨_, rfl, hw⟩) hS.2.2 dX10_workedOut_216
  · have hw := hw.2 c_19
    refine lv_iload_n hx hb dX10_workedOut_207 rfl (lv_at hl 2 rfl) ?_
    refine lv_if_eq (tgt := 215) hx hb dX10_workedOut_208 (by decide) (fun c_20 => ?_) (fun c_20 => ?_)
    · have hw := hw.1 c_20
      refine lv_iconst (v := 0) hx hb dX10_workedOut_215 (by decide) ?_
      exact W.iret hx hb hr (mw_end hP hSt hTb hS ⟨_, rfl, hw⟩) hS.2.2 dX10_workedOut_216
    · have hw := hw.2 c_20
      refine lv_iconst (v := 1) hx hb dX10_workedOut_211 (by decide) ?_
      refine lv_goto (tgt := 216) hx hb dX10_workedOut_212 (by decide) ?_
      exact W.iret hx hb hr (mw_end hP hSt hTb hS ⟨_, rfl, hw⟩) hS.2.2 dX10_workedOut_216
def b_X10_walks_184 (h : Nat) (Q : Int32 → Mem → Prop) (K39 : Int32 → Int32 → Mem → Prop) (v1 : Int32) (v5 : Int32) (v6 : Int32) (v7 : Int32) (M : Mem) : Prop :=
  ∀ x_1 : Int32, x_1 = v7 + 1 → K39 v6 x_1 M
def b_X10_walks_143 (h : Nat) (Q : Int32 → Mem → Prop) (K39 : Int32 → Int32 → Mem → Prop) (v1 : Int32) (v5 : Int32) (v6 : Int32) (v7 : Int32) (s0 : Nat) (s1 : Int32) (s2 : Int32) (M : Mem) : Prop :=
  vp_in s1 (lnT s0) ∧ ∀ M_3, M_3 = mu M s0 s1.toNatClampNeg s2 → b_X10_walks_184 h Q K39 v1 v5 v6 v7 M_3
def b_X10_walks_103 (h : Nat) (Q : Int32 → Mem → Prop) (K39 : Int32 → Int32 → Mem → Prop) (v1 : Int32) (v5 : Int32) (v6 : Int32) (v7 : Int32) (s0 : Nat) (s1 : Int32) (s2 : Int32) (M : Mem) : Prop :=
  vp_in s1 (lnT s0) ∧ ∀ M_5, M_5 = mu M s0 s1.toNatClampNeg s2 → ∀ x_6 : Int32, x_6 = v6 + 1 → b_X10_walks_184 h Q K39 v1 v5 x_6 v7 M_5
def B_X10_walks_39 (h : Nat) (Q : Int32 → Mem → Prop) (v1 : Int32) (v5 : Int32) (K39 : Int32 → Int32 → Mem → Prop) (v6 : Int32) (v7 : Int32) (M : Mem) : Prop :=
  vp_in (6 + v1) 242 ∧ (((v5 + (M (h + 1) (6 + v1).toNatClampNeg)) ≤ v7 → Q (M (h + 6) 0) M) ∧ (¬ (v5 + (M (h + 1) (6 + v1).toNatClampNeg)) ≤ v7 → vp_in v7 242 ∧ (∀ x_11, x_11 = M (h + 1) v7.toNatClampNeg → (20000 ≤ x_11 → (¬ x_11 = 20033 → ∀ x_14 : Int32, x_14 = v6 + (-1) → vp_in (x_14 - 1) 50 ∧ (vp_in x_14 50 ∧ (wp_X10_workedOut (x_11 - 20000) (M (h + 6) (x_14 - 1).toNatClampNeg) (M (h + 6) x_14.toNatClampNeg) M (fun r_18 M_17 => vp_in (x_14 - 1) 50 ∧ ∀ M_20, M_20 = mu M_17 (h + 6) (x_14 - 1).toNatClampNeg r_18 → b_X10_walks_184 h Q K39 v1 v5 x_14 v7 M_20)))) ∧ (x_11 = 20033 → vp_in (v6 - 1) 50 ∧ ((¬ (M (h + 6) (v6 - 1).toNatClampNeg) = 0 → b_X10_walks_143 h Q K39 v1 v5 v6 v7 (h + 6) (v6 - 1) 0 M) ∧ ((M (h + 6) (v6 - 1).toNatClampNeg) = 0 → b_X10_walks_143 h Q K39 v1 v5 v6 v7 (h + 6) (v6 - 1) 1 M)))) ∧ (¬ 20000 ≤ x_11 → (10000 ≤ x_11 → vp_in (x_11 - 10000) 3 ∧ (b_X10_walks_103 h Q K39 v1 v5 v6 v7 (h + 6) v6 (M (h + 7) (x_11 - 10000).toNatClampNeg) M)) ∧ (¬ 10000 ≤ x_11 → b_X10_walks_103 h Q K39 v1 v5 v6 v7 (h + 6) v6 x_11 M)))))
def l_X10_walks_39 (h : Nat) (Q : Int32 → Mem → Prop) (v1 : Int32) (v5 : Int32) : Nat → Int32 → Int32 → Mem → Prop
  | 0 => fun _ _ _ => False
  | n + 1 => B_X10_walks_39 h Q v1 v5 (l_X10_walks_39 h Q v1 v5 n)
def wp_X10_walks (h : Nat) (a1 : Int32) (a2 : Int32) (a3 : Int32) (a4 : Int32) (M : Mem) (Q : Int32 → Mem → Prop) : Prop :=
  kdT h = 10 ∧ (∀ M_26, M_26 = mu M (h + 7) 0 a2 → ∀ M_28, M_28 = mu M_26 (h + 7) 1 a3 → ∀ M_30, M_30 = mu M_28 (h + 7) 2 a4 → ∀ x_31, x_31 = 142 + (50 * a1) → ∃ n, l_X10_walks_39 h Q a1 x_31 n 0 x_31 M_30)
set_option maxHeartbeats 4000000 in
set_option maxRecDepth 100000 in
theorem so_X10_walks (l : Launch) (G : Gm) (h : Nat) (a1 : Int32) (a2 : Int32) (a3 : Int32) (a4 : Int32) (M : Mem) (Q : Int32 → Mem → Prop) (hw : wp_X10_walks h a1 a2 a3 a4 M Q) : Ct l G yX10_walks cX10_walks 9 (some .int) ({ frames := 1, cells := 0, slots := 0, locals := 22 } : Room) [.ref (G.1 + h), .int a1, .int a2, .int a3, .int a4] M (Qi Q) := by
  unfold wp_X10_walks at hw
  obtain ⟨kh, hw⟩ := hw
  refine ct_of (by decide) (Nat.le_of_ble_eq_true rfl) ?_
  intro p e s m below meth c E_ ls H hl hP hS
  obtain ⟨hx, hb, hml, hown, hts, ht, hr, hlocks, hSt, hTb⟩ := E_
  have hl : lv_has ls 9 [(0, .ref (G.1 + h)), (1, .int a1), (2, .int a2), (3, .int a3), (4, .int a4)] := hl
  have L_39 : ∀ (v1 : Int32) (v5 : Int32), ∀ (n39 : Nat) (v6 : Int32) (v7 : Int32) (M : Mem) (H : Heap) (locs : List Loc) (ls : Array Slot), l_X10_walks_39 h Q v1 v5 n39 v6 v7 M → va_P G.2.1 clsA (wl G M) H → va_S (inW G) s.heap H locs → lv_has ls 9 [(0, .ref (G.1 + h)), (1, .int v1), (5, .int v5), (6, .int v6), (7, .int v7)] → W p l e ({ frames := 1, cells := 0, slots := 0, locals := 22 } : Room) s m ([.ref (G.1 + h), .int a1, .int a2, .int a3, .int a4] : List Value).toArray below meth c H locs 0 0 (MQ below (Pq G (Qi Q)) ([.ref (G.1 + h), .int a1, .int a2, .int a3, .int a4] : List Value).toArray s 0 0 (inW G)) (F0 m 39 ls []) := by
    intro v1 v5  n39
    induction n39 with
    | zero => intro v6 v7 M H locs ls  hw hP hS hl; exact False.elim hw
    | succ n39 ih39 =>
      have J_184 : ∀ (v6 : Int32) (v7 : Int32) (M : Mem) (H : Heap) (locs : List Loc) (ls : Array Slot), b_X10_walks_184 h Q (l_X10_walks_39 h Q v1 v5 n39) v1 v5 v6 v7 M → va_P G.2.1 clsA (wl G M) H → va_S (inW G) s.heap H locs → lv_has ls 9 [(0, .ref (G.1 + h)), (1, .int v1), (5, .int v5), (6, .int v6), (7, .int v7)] → W p l e ({ frames := 1, cells := 0, slots := 0, locals := 22 } : Room) s m ([.ref (G.1 + h), .int a1, .int a2, .int a3, .int a4] : List Value).toArray below meth c H locs 0 0 (MQ below (Pq G (Qi Q)) ([.ref (G.1 + h), .int a1, .int a2, .int a3, .int a4] : List Value).toArray s 0 0 (inW G)) (F0 m 184 ls []) := by
        intro v6 v7 M H locs ls  hw hP hS hl
        unfold b_X10_walks_184 at hw
        obtain ⟨x_1, ex_1⟩ : ∃ z : Int32, z = v7 + 1 := ⟨_, rfl⟩
        have hw := hw x_1 ex_1
        refine lv_iinc (v := x_1) (lv' := [(7, .int x_1), (0, .ref (G.1 + h)), (1, .int v1), (5, .int v5), (6, .int v6)]) hx hb dX10_walks_184 hl (k := 4) rfl (by rw [ex_1]; rfl) (by decide) rfl (fun ls hl => ?_)
        refine lv_goto (tgt := 39) hx hb dX10_walks_187 (by decide) ?_
        exact ih39 v6 x_1 M _ _ _ hw hP hS (lv_sub hl [1, 2, 3, 4, 0] rfl)
      have J_143 : ∀ (v6 : Int32) (v7 : Int32) (s0 : Nat) (s1 : Int32) (s2 : Int32) (M : Mem) (H : Heap) (locs : List Loc) (ls : Array Slot), kdT s0 = 11 → b_X10_walks_143 h Q (l_X10_walks_39 h Q v1 v5 n39) v1 v5 v6 v7 s0 s1 s2 M → va_P G.2.1 clsA (wl G M) H → va_S (inW G) s.heap H locs → lv_has ls 9 [(0, .ref (G.1 + h)), (1, .int v1), (5, .int v5), (6, .int v6), (7, .int v7)] → W p l e ({ frames := 1, cells := 0, slots := 0, locals := 22 } : Room) s m ([.ref (G.1 + h), .int a1, .int a2, .int a3, .int a4] : List Value).toArray below meth c H locs 0 0 (MQ below (Pq G (Qi Q)) ([.ref (G.1 + h), .int a1, .int a2, .int a3, .int a4] : List Value).toArray s 0 0 (inW G)) (F0 m 143 ls [.int s2, .int s1, .ref (G.1 + s0)]) := by
        intro v6 v7 s0 s1 s2 M H locs ls ks0 hw hP hS hl
        unfold b_X10_walks_143 at hw
        obtain ⟨c_2, hw⟩ := hw
        refine mw_iast hx hb hSt hP hS ks0 c_2 dX10_walks_143 (fun M_3 H locs eM_3 hP hS => ?_)
        have hw := hw M_3 eM_3
        refine lv_goto (tgt := 184) hx hb dX10_walks_144 (by decide) ?_
        exact J_184 v6 v7 M_3 _ _ _ hw hP hS (lv_sub hl [0, 1, 2, 3, 4] rfl)
      have J_103 : ∀ (v6 : Int32) (v7 : Int32) (s0 : Nat) (s1 : Int32) (s2 : Int32) (M : Mem) (H : Heap) (locs : List Loc) (ls : Array Slot), kdT s0 = 11 → b_X10_walks_103 h Q (l_X10_walks_39 h Q v1 v5 n39) v1 v5 v6 v7 s0 s1 s2 M → va_P G.2.1 clsA (wl G M) H → va_S (inW G) s.heap H locs → lv_has ls 9 [(0, .ref (G.1 + h)), (1, .int v1), (5, .int v5), (6, .int v6), (7, .int v7)] → W p l e ({ frames := 1, cells := 0, slots := 0, locals := 22 } : Room) s m ([.ref (G.1 + h), .int a1, .int a2, .int a3, .int a4] : List Value).toArray below meth c H locs 0 0 (MQ below (Pq G (Qi Q)) ([.ref (G.1 + h), .int a1, .int a2, .int a3, .int a4] : List Value).toArray s 0 0 (inW G)) (F0 m 103 ls [.int s2, .int s1, .ref (G.1 + s0)]) := by
        intro v6 v7 s0 s1 s2 M H locs ls ks0 hw hP hS hl
        unfold b_X10_walks_103 at hw
        obtain ⟨c_4, hw⟩ := hw
        refine mw_iast hx hb hSt hP hS ks0 c_4 dX10_walks_103 (fun M_5 H locs eM_5 hP hS => ?_)
        have hw := hw M_5 eM_5
        obtain ⟨x_6, ex_6⟩ : ∃ z : Int32, z = v6 + 1 := ⟨_, rfl⟩
        have hw := hw x_6 ex_6
        refine lv_iinc (v := x_6) (lv' := [(6, .int x_6), (0, .ref (G.1 + h)), (1, .int v1), (5, .int v5), (7, .int v7)]) hx hb dX10_walks_104 hl (k := 3) rfl (by rw [ex_6]; rfl) (by decide) rfl (fun ls hl => ?_)
        refine lv_goto (tgt := 184) hx hb dX10_walks_107 (by decide) ?_
        exact J_184 x_6 v7 M_5 _ _ _ hw hP hS (lv_sub hl [1, 2, 3, 0, 4] rfl)
      intro v6 v7 M H locs ls  hw hP hS hl
      have hw : B_X10_walks_39 h Q v1 v5 (l_X10_walks_39 h Q v1 v5 n39) v6 v7 M := hw
      unfold B_X10_walks_39 at hw
      refine lv_iload hx hb dX10_walks_39 (lv_at hl 4 rfl) ?_
      refine lv_iload hx hb dX10_walks_41 (lv_at hl 2 rfl) ?_
      refine lv_aload_n hx hb dX10_walks_43 rfl (lv_at hl 0 rfl) ?_
      refine mw_get (ci := 10) (v := .ref (G.1 + (h + 1))) (C := RX10) (T := TX10) (N := 25) hx hb ht inX10 hown hSt hP kh (by decide) (mk10 kh) rfl 0 (by decide) (ht _ wf_RX10_7) rfl rfl dX10_walks_44 ?_
      refine lv_bipush (v := 6) hx hb dX10_walks_47 (by decide) ?_
      refine lv_iload_n hx hb dX10_walks_49 rfl (lv_at hl 1 rfl) ?_
      refine lv_iadd hx hb dX10_walks_50 ?_
      obtain ⟨c_7, hw⟩ := hw
      refine mw_iald hx hb hSt hP (ks10_0 kh) (by rw [(ln10_0 kh)]; exact c_7) dX10_walks_51 ?_
      refine lv_iadd hx hb dX10_walks_52 ?_
      refine lv_icmp_ge (tgt := 190) hx hb dX10_walks_53 (by decide) (fun c_8 => ?_) (fun c_8 => ?_)
      · have hw := hw.1 c_8
        refine lv_aload_n hx hb dX10_walks_190 rfl (lv_at hl 0 rfl) ?_
        refine mw_get (ci := 10) (v := .ref (G.1 + (h + 6))) (C := RX10) (T := TX10) (N := 25) hx hb ht inX10 hown hSt hP kh (by decide) (mk10 kh) rfl 13 (by decide) (ht _ wf_RX10_25) rfl rfl dX10_walks_191 ?_
        refine lv_iconst (v := 0) hx hb dX10_walks_194 (by decide) ?_
        refine mw_ialdc hx hb hSt hP (ks10_13 kh) (ln10_13 kh) 0 (by decide) dX10_walks_195 ?_
        exact W.iret hx hb hr (mw_end hP hSt hTb hS ⟨_, rfl, hw⟩) hS.2.2 dX10_walks_196
      · have hw := hw.2 c_8
        refine lv_aload_n hx hb dX10_walks_56 rfl (lv_at hl 0 rfl) ?_
        refine mw_get (ci := 10) (v := .ref (G.1 + (h + 1))) (C := RX10) (T := TX10) (N := 25) hx hb ht inX10 hown hSt hP kh (by decide) (mk10 kh) rfl 0 (by decide) (ht _ wf_RX10_7) rfl rfl dX10_walks_57 ?_
        refine lv_iload hx hb dX10_walks_60 (lv_at hl 4 rfl) ?_
        obtain ⟨c_10, hw⟩ := hw
        refine mw_iald hx hb hSt hP (ks10_0 kh) (by rw [(ln10_0 kh)]; exact c_10) dX10_walks_62 ?_
        refine lv_topi (fun x_11 ex_11 => ?_)
        have hw := hw x_11 ex_11
        refine lv_istore (lv' := [(8, .int x_11), (0, .ref (G.1 + h)), (1, .int v1), (5, .int v5), (6, .int v6), (7, .int v7)]) hx hb dX10_walks_63 hl (by decide) rfl (fun ls hl => ?_)
        refine lv_iload hx hb dX10_walks_65 (lv_at hl 0 rfl) ?_
        refine lv_sipush (v := 20000) hx hb dX10_walks_67 (by decide) ?_
        refine lv_icmp_ge (tgt := 110) hx hb dX10_walks_70 (by decide) (fun c_12 => ?_) (fun c_12 => ?_)
        · have hw := hw.1 c_12
          refine lv_iload hx hb dX10_walks_110 (lv_at hl 0 rfl) ?_
          refine lv_sipush (v := 20033) hx hb dX10_walks_112 (by decide) ?_
          refine lv_icmp_ne (tgt := 147) hx hb dX10_walks_115 (by decide) (fun c_13 => ?_) (fun c_13 => ?_)
          · have hw := hw.1 c_13
            obtain ⟨x_14, ex_14⟩ : ∃ z : Int32, z = v6 + (-1) := ⟨_, rfl⟩
            have hw := hw x_14 ex_14
            refine lv_iinc (v := x_14) (lv' := [(6, .int x_14), (8, .int x_11), (0, .ref (G.1 + h)), (1, .int v1), (5, .int v5), (7, .int v7)]) hx hb dX10_walks_147 hl (k := 4) rfl (by rw [ex_14]; rfl) (by decide) rfl (fun ls hl => ?_)
            refine lv_aload_n hx hb dX10_walks_150 rfl (lv_at hl 2 rfl) ?_
            refine mw_get (ci := 10) (v := .ref (G.1 + (h + 6))) (C := RX10) (T := TX10) (N := 25) hx hb ht inX10 hown hSt hP kh (by decide) (mk10 kh) rfl 13 (by decide) (ht _ wf_RX10_25) rfl rfl dX10_walks_151 ?_
            refine lv_iload hx hb dX10_walks_154 (lv_at hl 0 rfl) ?_
            refine lv_iconst (v := 1) hx hb dX10_walks_156 (by decide) ?_
            refine lv_isub hx hb dX10_walks_157 ?_
            refine lv_iload hx hb dX10_walks_158 (lv_at hl 1 rfl) ?_
            refine lv_sipush (v := 20000) hx hb dX10_walks_160 (by decide) ?_
            refine lv_isub hx hb dX10_walks_163 ?_
            refine lv_aload_n hx hb dX10_walks_164 rfl (lv_at hl 2 rfl) ?_
            refine mw_get (ci := 10) (v := .ref (G.1 + (h + 6))) (C := RX10) (T := TX10) (N := 25) hx hb ht inX10 hown hSt hP kh (by decide) (mk10 kh) rfl 13 (by decide) (ht _ wf_RX10_25) rfl rfl dX10_walks_165 ?_
            refine lv_iload hx hb dX10_walks_168 (lv_at hl 0 rfl) ?_
            refine lv_iconst (v := 1) hx hb dX10_walks_170 (by decide) ?_
            refine lv_isub hx hb dX10_walks_171 ?_
            obtain ⟨c_15, hw⟩ := hw
            refine mw_iald hx hb hSt hP (ks10_13 kh) (by rw [(ln10_13 kh)]; exact c_15) dX10_walks_172 ?_
            refine lv_aload_n hx hb dX10_walks_173 rfl (lv_at hl 2 rfl) ?_
            refine mw_get (ci := 10) (v := .ref (G.1 + (h + 6))) (C := RX10) (T := TX10) (N := 25) hx hb ht inX10 hown hSt hP kh (by decide) (mk10 kh) rfl 13 (by decide) (ht _ wf_RX10_25) rfl rfl dX10_walks_174 ?_
            refine lv_iload hx hb dX10_walks_177 (lv_at hl 0 rfl) ?_
            obtain ⟨c_16, hw⟩ := hw
            refine mw_iald hx hb hSt hP (ks10_13 kh) (by rw [(ln10_13 kh)]; exact c_16) dX10_walks_179 ?_
            refine mw_Sx (As := [.int (x_11 - 20000), .int (M (h + 6) (x_14 - 1).toNatClampNeg), .int (M (h + 6) x_14.toNatClampNeg)]) (rest := [.int (x_14 - 1), .ref (G.1 + (h + 6))]) (n := 3) ⟨hx, hb, hml, hown, hts⟩ (so_X10_workedOut l G (x_11 - 20000) (M (h + 6) (x_14 - 1).toNatClampNeg) (M (h + 6) x_14.toNatClampNeg) M _ hw) wm_RX10_157 wt_yX10_workedOut wn_RX10 wc_yX10_workedOut (by decide) ⟨Nat.le_of_ble_eq_true rfl, Nat.le_of_ble_eq_true rfl⟩ ⟨rfl, rfl⟩ hSt hTb hP hS rfl hl.1 rfl (Nat.le_of_ble_eq_true rfl) dX10_walks_180 ⟨Nat.le_refl 0, Nat.le_refl 0⟩ (fun rr_ M_17 H locs hq hP hS => ?_)
            obtain ⟨r_18, rfl, hw⟩ := hq
            obtain ⟨c_19, hw⟩ := hw
            refine mw_iast hx hb hSt hP hS (ks10_13 kh) (by rw [(ln10_13 kh)]; exact c_19) dX10_walks_183 (fun M_20 H locs eM_20 hP hS => ?_)
            have hw := hw M_20 eM_20
            exact J_184 x_14 v7 M_20 _ _ _ hw hP hS (lv_sub hl [2, 3, 4, 0, 5] rfl)
          · have hw := hw.2 c_13
            refine lv_aload_n hx hb dX10_walks_118 rfl (lv_at hl 1 rfl) ?_
            refine mw_get (ci := 10) (v := .ref (G.1 + (h + 6))) (C := RX10) (T := TX10) (N := 25) hx hb ht inX10 hown hSt hP kh (by decide) (mk10 kh) rfl 13 (by decide) (ht _ wf_RX10_25) rfl rfl dX10_walks_119 ?_
            refine lv_iload hx hb dX10_walks_122 (lv_at hl 4 rfl) ?_
            refine lv_iconst (v := 1) hx hb dX10_walks_124 (by decide) ?_
            refine lv_isub hx hb dX10_walks_125 ?_
            refine lv_aload_n hx hb dX10_walks_126 rfl (lv_at hl 1 rfl) ?_
            refine mw_get (ci := 10) (v := .ref (G.1 + (h + 6))) (C := RX10) (T := TX10) (N := 25) hx hb ht inX10 hown hSt hP kh (by decide) (mk10 kh) rfl 13 (by decide) (ht _ wf_RX10_25) rfl rfl dX10_walks_127 ?_
            refine lv_iload hx hb dX10_walks_130 (lv_at hl 4 rfl) ?_
            refine lv_iconst (v := 1) hx hb dX10_walks_132 (by decide) ?_
            refine lv_isub hx hb dX10_walks_133 ?_
            obtain ⟨c_21, hw⟩ := hw
            refine mw_iald hx hb hSt hP (ks10_13 kh) (by rw [(ln10_13 kh)]; exact c_21) dX10_walks_134 ?_
            refine lv_if_ne (tgt := 142) hx hb dX10_walks_135 (by decide) (fun c_22 => ?_) (fun c_22 => ?_)
            · have hw := hw.1 c_22
              refine lv_iconst (v := 0) hx hb dX10_walks_142 (by decide) ?_
              exact J_143 v6 v7 (h + 6) (v6 - 1) 0 M _ _ _ (ks10_13 kh) hw hP hS (lv_sub hl [1, 2, 3, 4, 5] rfl)
            · have hw := hw.2 c_22
              refine lv_iconst (v := 1) hx hb dX10_walks_138 (by decide) ?_
              refine lv_goto (tgt := 143) hx hb dX10_walks_139 (by decide) ?_
              exact J_143 v6 v7 (h + 6) (v6 - 1) 1 M _ _ _ (ks10_13 kh) hw hP hS (lv_sub hl [1, 2, 3, 4, 5] rfl)
        · have hw := hw.2 c_12
          refine lv_aload_n hx hb dX10_walks_73 rfl (lv_at hl 1 rfl) ?_
          refine mw_get (ci := 10) (v := .ref (G.1 + (h + 6))) (C := RX10) (T := TX10) (N := 25) hx hb ht inX10 hown hSt hP kh (by decide) (mk10 kh) rfl 13 (by decide) (ht _ wf_RX10_25) rfl rfl dX10_walks_74 ?_
          refine lv_iload hx hb dX10_walks_77 (lv_at hl 4 rfl) ?_
          refine lv_iload hx hb dX10_walks_79 (lv_at hl 0 rfl) ?_
          refine lv_sipush (v := 10000) hx hb dX10_walks_81 (by decide) ?_
          refine lv_icmp_ge (tgt := 92) hx hb dX10_walks_84 (by decide) (fun c_23 => ?_) (fun c_23 => ?_)
          · have hw := hw.1 c_23
            refine lv_aload_n hx hb dX10_walks_92 rfl (lv_at hl 1 rfl) ?_
            refine mw_get (ci := 10) (v := .ref (G.1 + (h + 7))) (C := RX10) (T := TX10) (N := 25) hx hb ht inX10 hown hSt hP kh (by decide) (mk10 kh) rfl 14 (by decide) (ht _ wf_RX10_28) rfl rfl dX10_walks_93 ?_
            refine lv_iload hx hb dX10_walks_96 (lv_at hl 0 rfl) ?_
            refine lv_sipush (v := 10000) hx hb dX10_walks_98 (by decide) ?_
            refine lv_isub hx hb dX10_walks_101 ?_
            obtain ⟨c_24, hw⟩ := hw
            refine mw_iald hx hb hSt hP (ks10_14 kh) (by rw [(ln10_14 kh)]; exact c_24) dX10_walks_102 ?_
            exact J_103 v6 v7 (h + 6) v6 (M (h + 7) (x_11 - 10000).toNatClampNeg) M _ _ _ (ks10_13 kh) hw hP hS (lv_sub hl [1, 2, 3, 4, 5] rfl)
          · have hw := hw.2 c_23
            refine lv_iload hx hb dX10_walks_87 (lv_at hl 0 rfl) ?_
            refine lv_goto (tgt := 103) hx hb dX10_walks_89 (by decide) ?_
            exact J_103 v6 v7 (h + 6) v6 x_11 M _ _ _ (ks10_13 kh) hw hP hS (lv_sub hl [1, 2, 3, 4, 5] rfl)
  refine lv_aload_n hx hb dX10_walks_0 rfl (lv_at hl 0 rfl) ?_
  refine mw_get (ci := 10) (v := .ref (G.1 + (h + 7))) (C := RX10) (T := TX10) (N := 25) hx hb ht inX10 hown hSt hP kh (by decide) (mk10 kh) rfl 14 (by decide) (ht _ wf_RX10_28) rfl rfl dX10_walks_1 ?_
  refine lv_iconst (v := 0) hx hb dX10_walks_4 (by decide) ?_
  refine lv_iload_n hx hb dX10_walks_5 rfl (lv_at hl 2 rfl) ?_
  refine mw_iastc hx hb hSt hP hS (ks10_14 kh) (ln10_14 kh) 0 (by decide) dX10_walks_6 (fun M_26 H locs eM_26 hP hS => ?_)
  have hw := hw M_26 eM_26
  refine lv_aload_n hx hb dX10_walks_7 rfl (lv_at hl 0 rfl) ?_
  refine mw_get (ci := 10) (v := .ref (G.1 + (h + 7))) (C := RX10) (T := TX10) (N := 25) hx hb ht inX10 hown hSt hP kh (by decide) (mk10 kh) rfl 14 (by decide) (ht _ wf_RX10_28) rfl rfl dX10_walks_8 ?_
  refine lv_iconst (v := 1) hx hb dX10_walks_11 (by decide) ?_
  refine lv_iload_n hx hb dX10_walks_12 rfl (lv_at hl 3 rfl) ?_
  refine mw_iastc hx hb hSt hP hS (ks10_14 kh) (ln10_14 kh) 1 (by decide) dX10_walks_13 (fun M_28 H locs eM_28 hP hS => ?_)
  have hw := hw M_28 eM_28
  refine lv_aload_n hx hb dX10_walks_14 rfl (lv_at hl 0 rfl) ?_
  refine mw_get (ci := 10) (v := .ref (G.1 + (h + 7))) (C := RX10) (T := TX10) (N := 25) hx hb ht inX10 hown hSt hP kh (by decide) (mk10 kh) rfl 14 (by decide) (ht _ wf_RX10_28) rfl rfl dX10_walks_15 ?_
  refine lv_iconst (v := 2) hx hb dX10_walks_18 (by decide) ?_
  refine lv_iload hx hb dX10_walks_19 (lv_at hl 4 rfl) ?_
  refine mw_iastc hx hb hSt hP hS (ks10_14 kh) (ln10_14 kh) 2 (by decide) dX10_walks_21 (fun M_30 H locs eM_30 hP hS => ?_)
  have hw := hw M_30 eM_30
  refine lv_sipush (v := 142) hx hb dX10_walks_22 (by decide) ?_
  refine lv_bipush (v := 50) hx hb dX10_walks_25 (by decide) ?_
  refine lv_iload_n hx hb dX10_walks_27 rfl (lv_at hl 1 rfl) ?_
  refine lv_imul hx hb dX10_walks_28 ?_
  refine lv_iadd hx hb dX10_walks_29 ?_
  refine lv_topi (fun x_31 ex_31 => ?_)
  have hw := hw x_31 ex_31
  refine lv_istore (lv' := [(5, .int x_31), (0, .ref (G.1 + h)), (1, .int a1), (2, .int a2), (3, .int a3), (4, .int a4)]) hx hb dX10_walks_30 hl (by decide) rfl (fun ls hl => ?_)
  refine lv_iconst (v := 0) hx hb dX10_walks_32 (by decide) ?_
  refine lv_istore (lv' := [(6, .int 0), (5, .int x_31), (0, .ref (G.1 + h)), (1, .int a1), (2, .int a2), (3, .int a3), (4, .int a4)]) hx hb dX10_walks_33 hl (by decide) rfl (fun ls hl => ?_)
  refine lv_iload hx hb dX10_walks_35 (lv_at hl 1 rfl) ?_
  refine lv_istore (lv' := [(7, .int x_31), (6, .int 0), (5, .int x_31), (0, .ref (G.1 + h)), (1, .int a1), (2, .int a2), (3, .int a3), (4, .int a4)]) hx hb dX10_walks_37 hl (by decide) rfl (fun ls hl => ?_)
  obtain ⟨n_, hw⟩ := hw
  exact L_39 a1 x_31 n_ 0 x_31 M_30 _ _ _ hw hP hS (lv_sub hl [3, 4, 2, 1, 0] rfl)
def b_X10_lawOf_10 (h : Nat) (Q : Int32 → Mem → Prop) (v1 : Int32) (v2 : Int32) (v3 : Int32) (v4 : Int32) (s0 : Int32) (M : Mem) : Prop :=
  vp_in (6 + v1) 242 ∧ (((M (h + 1) (6 + v1).toNatClampNeg) < 0 → Q 1 M) ∧ (¬ (M (h + 1) (6 + v1).toNatClampNeg) < 0 → wp_X10_walks h v1 v2 v3 v4 M (fun r_4 M_3 => wp_X10_held r_4 0 s0 M_3 (fun r_6 M_5 => Q r_6 M_5))))
def wp_X10_lawOf (h : Nat) (a1 : Int32) (a2 : Int32) (a3 : Int32) (a4 : Int32) (M : Mem) (Q : Int32 → Mem → Prop) : Prop :=
  kdT h = 10 ∧ ((¬ a1 = 0 → b_X10_lawOf_10 h Q a1 a2 a3 a4 1 M) ∧ (a1 = 0 → b_X10_lawOf_10 h Q a1 a2 a3 a4 99 M))
set_option maxHeartbeats 4000000 in
set_option maxRecDepth 100000 in
theorem so_X10_lawOf (l : Launch) (G : Gm) (h : Nat) (a1 : Int32) (a2 : Int32) (a3 : Int32) (a4 : Int32) (M : Mem) (Q : Int32 → Mem → Prop) (hw : wp_X10_lawOf h a1 a2 a3 a4 M Q) : Ct l G yX10_lawOf cX10_lawOf 6 (some .int) ({ frames := 2, cells := 0, slots := 0, locals := 50 } : Room) [.ref (G.1 + h), .int a1, .int a2, .int a3, .int a4] M (Qi Q) := by
  unfold wp_X10_lawOf at hw
  obtain ⟨kh, hw⟩ := hw
  refine ct_of (by decide) (Nat.le_of_ble_eq_true rfl) ?_
  intro p e s m below meth c E_ ls H hl hP hS
  obtain ⟨hx, hb, hml, hown, hts, ht, hr, hlocks, hSt, hTb⟩ := E_
  have hl : lv_has ls 6 [(0, .ref (G.1 + h)), (1, .int a1), (2, .int a2), (3, .int a3), (4, .int a4)] := hl
  have J_10 : ∀ (v1 : Int32) (v2 : Int32) (v3 : Int32) (v4 : Int32) (s0 : Int32) (M : Mem) (H : Heap) (locs : List Loc) (ls : Array Slot), b_X10_lawOf_10 h Q v1 v2 v3 v4 s0 M → va_P G.2.1 clsA (wl G M) H → va_S (inW G) s.heap H locs → lv_has ls 6 [(0, .ref (G.1 + h)), (1, .int v1), (2, .int v2), (3, .int v3), (4, .int v4)] → W p l e ({ frames := 2, cells := 0, slots := 0, locals := 50 } : Room) s m ([.ref (G.1 + h), .int a1, .int a2, .int a3, .int a4] : List Value).toArray below meth c H locs 0 0 (MQ below (Pq G (Qi Q)) ([.ref (G.1 + h), .int a1, .int a2, .int a3, .int a4] : List Value).toArray s 0 0 (inW G)) (F0 m 10 ls [.int s0]) := by
    intro v1 v2 v3 v4 s0 M H locs ls  hw hP hS hl
    unfold b_X10_lawOf_10 at hw
    refine lv_istore (lv' := [(5, .int s0), (0, .ref (G.1 + h)), (1, .int v1), (2, .int v2), (3, .int v3), (4, .int v4)]) hx hb dX10_lawOf_10 hl (by decide) rfl (fun ls hl => ?_)
    refine lv_aload_n hx hb dX10_lawOf_12 rfl (lv_at hl 1 rfl) ?_
    refine mw_get (ci := 10) (v := .ref (G.1 + (h + 1))) (C := RX10) (T := TX10) (N := 25) hx hb ht inX10 hown hSt hP kh (by decide) (mk10 kh) rfl 0 (by decide) (ht _ wf_RX10_7) rfl rfl dX10_lawOf_13 ?_
    refine lv_bipush (v := 6) hx hb dX10_lawOf_16 (by decide) ?_
    refine lv_iload_n hx hb dX10_lawOf_18 rfl (lv_at hl 2 rfl) ?_
    refine lv_iadd hx hb dX10_lawOf_19 ?_
    obtain ⟨c_1, hw⟩ := hw
    refine mw_iald hx hb hSt hP (ks10_0 kh) (by rw [(ln10_0 kh)]; exact c_1) dX10_lawOf_20 ?_
    refine lv_if_lt (tgt := 40) hx hb dX10_lawOf_21 (by decide) (fun c_2 => ?_) (fun c_2 => ?_)
    · have hw := hw.1 c_2
      refine lv_iconst (v := 1) hx hb dX10_lawOf_40 (by decide) ?_
      exact W.iret hx hb hr (mw_end hP hSt hTb hS ⟨_, rfl, hw⟩) hS.2.2 dX10_lawOf_41
    · have hw := hw.2 c_2
      refine lv_aload_n hx hb dX10_lawOf_24 rfl (lv_at hl 1 rfl) ?_
      refine lv_iload_n hx hb dX10_lawOf_25 rfl (lv_at hl 2 rfl) ?_
      refine lv_iload_n hx hb dX10_lawOf_26 rfl (lv_at hl 3 rfl) ?_
      refine lv_iload_n hx hb dX10_lawOf_27 rfl (lv_at hl 4 rfl) ?_
      refine lv_iload hx hb dX10_lawOf_28 (lv_at hl 5 rfl) ?_
      refine mw_V (As := [.int v1, .int v2, .int v3, .int v4]) (rest := []) (T := TX10) (N := 25) (n := 4) ⟨hx, hb, hml, hown, hts⟩ (so_X10_walks l G h v1 v2 v3 v4 M _ hw) wm_RX10_161 wi_yX10_walks wv_yX10_walks wn_RX10 wc_yX10_walks (by decide) ⟨Nat.le_of_ble_eq_true rfl, Nat.le_of_ble_eq_true rfl⟩ ⟨rfl, rfl⟩ kh (by decide) (mk10 kh) rfl hSt hTb hP hS rfl hl.1 rfl (Nat.le_of_ble_eq_true rfl) dX10_lawOf_30 ⟨Nat.le_refl 0, Nat.le_refl 0⟩ (fun rr_ M_3 H locs hq hP hS => ?_)
      obtain ⟨r_4, rfl, hw⟩ := hq
      refine lv_iconst (v := 0) hx hb dX10_lawOf_33 (by decide) ?_
      refine lv_iload hx hb dX10_lawOf_34 (lv_at hl 0 rfl) ?_
      refine mw_Sx (As := [.int r_4, .int 0, .int s0]) (rest := []) (n := 3) ⟨hx, hb, hml, hown, hts⟩ (so_X10_held l G r_4 0 s0 M_3 _ hw) wm_RX10_165 wt_yX10_held wn_RX10 wc_yX10_held (by decide) ⟨Nat.le_of_ble_eq_true rfl, Nat.le_of_ble_eq_true rfl⟩ ⟨rfl, rfl⟩ hSt hTb hP hS rfl hl.1 rfl (Nat.le_of_ble_eq_true rfl) dX10_lawOf_36 ⟨Nat.le_refl 0, Nat.le_refl 0⟩ (fun rr_ M_5 H locs hq hP hS => ?_)
      obtain ⟨r_6, rfl, hw⟩ := hq
      exact W.iret hx hb hr (mw_end hP hSt hTb hS ⟨_, rfl, hw⟩) hS.2.2 dX10_lawOf_39
  refine lv_iload_n hx hb dX10_lawOf_0 rfl (lv_at hl 1 rfl) ?_
  refine lv_if_ne (tgt := 9) hx hb dX10_lawOf_1 (by decide) (fun c_7 => ?_) (fun c_7 => ?_)
  · have hw := hw.1 c_7
    refine lv_iconst (v := 1) hx hb dX10_lawOf_9 (by decide) ?_
    exact J_10 a1 a2 a3 a4 1 M _ _ _ hw hP hS (lv_sub hl [0, 1, 2, 3, 4] rfl)
  · have hw := hw.2 c_7
    refine lv_bipush (v := 99) hx hb dX10_lawOf_4 (by decide) ?_
    refine lv_goto (tgt := 10) hx hb dX10_lawOf_6 (by decide) ?_
    exact J_10 a1 a2 a3 a4 99 M _ _ _ hw hP hS (lv_sub hl [0, 1, 2, 3, 4] rfl)
def b_X10_outFor_120 (h : Nat) (Q : Int32 → Mem → Prop) (K4 : Int32 → Int32 → Mem → Prop) (v1 : Int32) (v2 : Int32) (v3 : Int32) (M : Mem) : Prop :=
  ∀ x_1 : Int32, x_1 = v3 + 1 → K4 v2 x_1 M
def b_X10_outFor_96 (h : Nat) (Q : Int32 → Mem → Prop) (K4 : Int32 → Int32 → Mem → Prop) (v1 : Int32) (v2 : Int32) (v3 : Int32) (v4 : Int32) (M : Mem) : Prop :=
  wp_X10_its h v3 3 M (fun r_3 M_2 => wp_X10_its h v3 1 M_2 (fun r_5 M_4 => wp_X10_lawOf h 1 v4 r_3 r_5 M_4 (fun r_7 M_6 => (r_7 = 0 → b_X10_outFor_120 h Q K4 v1 v2 v3 M_6) ∧ (¬ r_7 = 0 → b_X10_outFor_120 h Q K4 v1 v3 v3 M_6))))
def b_X10_outFor_66 (h : Nat) (Q : Int32 → Mem → Prop) (K4 : Int32 → Int32 → Mem → Prop) (v1 : Int32) (v2 : Int32) (v3 : Int32) (v4 : Int32) (s0 : Int32) (M : Mem) : Prop :=
  (s0 = 0 → b_X10_outFor_120 h Q K4 v1 v2 v3 M) ∧ (¬ s0 = 0 → (v2 < 0 → b_X10_outFor_96 h Q K4 v1 v2 v3 v4 M) ∧ (¬ v2 < 0 → wp_X10_at h v1 M (fun r_12 M_11 => wp_X10_its h v2 2 M_11 (fun r_14 M_13 => wp_X10_apart r_12 r_14 M_13 (fun r_16 M_15 => (r_16 ≤ v4 → b_X10_outFor_120 h Q K4 v1 v2 v3 M_15) ∧ (¬ r_16 ≤ v4 → b_X10_outFor_96 h Q K4 v1 v2 v3 v4 M_15))))))
def b_X10_outFor_65 (h : Nat) (Q : Int32 → Mem → Prop) (K4 : Int32 → Int32 → Mem → Prop) (v1 : Int32) (v2 : Int32) (v3 : Int32) (v4 : Int32) (M : Mem) : Prop :=
  b_X10_outFor_66 h Q K4 v1 v2 v3 v4 0 M
def B_X10_outFor_4 (h : Nat) (Q : Int32 → Mem → Prop) (v1 : Int32) (K4 : Int32 → Int32 → Mem → Prop) (v2 : Int32) (v3 : Int32) (M : Mem) : Prop :=
  ((M (h + 1) 2) ≤ v3 → Q v2 M) ∧ (¬ (M (h + 1) 2) ≤ v3 → wp_X10_at h v1 M (fun r_21 M_20 => wp_X10_its h v3 2 M_20 (fun r_23 M_22 => wp_X10_apart r_21 r_23 M_22 (fun r_25 M_24 => wp_X10_its h v3 5 M_24 (fun r_27 M_26 => (¬ r_27 = 0 → b_X10_outFor_65 h Q K4 v1 v2 v3 r_25 M_26) ∧ (r_27 = 0 → wp_X10_isLost h v3 M_26 (fun r_30 M_29 => (¬ r_30 = 0 → b_X10_outFor_65 h Q K4 v1 v2 v3 r_25 M_29) ∧ (r_30 = 0 → wp_X10_its h v3 4 M_29 (fun r_33 M_32 => (¬ ((isr r_33 v1) &&& 1) = 1 → b_X10_outFor_65 h Q K4 v1 v2 v3 r_25 M_32) ∧ (((isr r_33 v1) &&& 1) = 1 → b_X10_outFor_66 h Q K4 v1 v2 v3 r_25 1 M_32))))))))))
def l_X10_outFor_4 (h : Nat) (Q : Int32 → Mem → Prop) (v1 : Int32) : Nat → Int32 → Int32 → Mem → Prop
  | 0 => fun _ _ _ => False
  | n + 1 => B_X10_outFor_4 h Q v1 (l_X10_outFor_4 h Q v1 n)
def wp_X10_outFor (h : Nat) (a1 : Int32) (M : Mem) (Q : Int32 → Mem → Prop) : Prop :=
  kdT h = 10 ∧ (∃ n, l_X10_outFor_4 h Q a1 n (-1) 0 M)
set_option maxHeartbeats 4000000 in
set_option maxRecDepth 100000 in
theorem so_X10_outFor (l : Launch) (G : Gm) (h : Nat) (a1 : Int32) (M : Mem) (Q : Int32 → Mem → Prop) (hw : wp_X10_outFor h a1 M Q) : Ct l G yX10_outFor cX10_outFor 6 (some .int) ({ frames := 3, cells := 0, slots := 0, locals := 75 } : Room) [.ref (G.1 + h), .int a1] M (Qi Q) := by
  unfold wp_X10_outFor at hw
  obtain ⟨kh, hw⟩ := hw
  refine ct_of (by decide) (Nat.le_of_ble_eq_true rfl) ?_
  intro p e s m below meth c E_ ls H hl hP hS
  obtain ⟨hx, hb, hml, hown, hts, ht, hr, hlocks, hSt, hTb⟩ := E_
  have hl : lv_has ls 6 [(0, .ref (G.1 + h)), (1, .int a1)] := hl
  have L_4 : ∀ (v1 : Int32), ∀ (n4 : Nat) (v2 : Int32) (v3 : Int32) (M : Mem) (H : Heap) (locs : List Loc) (ls : Array Slot), l_X10_outFor_4 h Q v1 n4 v2 v3 M → va_P G.2.1 clsA (wl G M) H → va_S (inW G) s.heap H locs → lv_has ls 6 [(0, .ref (G.1 + h)), (1, .int v1), (2, .int v2), (3, .int v3)] → W p l e ({ frames := 3, cells := 0, slots := 0, locals := 75 } : Room) s m ([.ref (G.1 + h), .int a1] : List Value).toArray below meth c H locs 0 0 (MQ below (Pq G (Qi Q)) ([.ref (G.1 + h), .int a1] : List Value).toArray s 0 0 (inW G)) (F0 m 4 ls []) := by
    intro v1  n4
    induction n4 with
    | zero => intro v2 v3 M H locs ls  hw hP hS hl; exact False.elim hw
    | succ n4 ih4 =>
      have J_120 : ∀ (v2 : Int32) (v3 : Int32) (M : Mem) (H : Heap) (locs : List Loc) (ls : Array Slot), b_X10_outFor_120 h Q (l_X10_outFor_4 h Q v1 n4) v1 v2 v3 M → va_P G.2.1 clsA (wl G M) H → va_S (inW G) s.heap H locs → lv_has ls 6 [(0, .ref (G.1 + h)), (1, .int v1), (2, .int v2), (3, .int v3)] → W p l e ({ frames := 3, cells := 0, slots := 0, locals := 75 } : Room) s m ([.ref (G.1 + h), .int a1] : List Value).toArray below meth c H locs 0 0 (MQ below (Pq G (Qi Q)) ([.ref (G.1 + h), .int a1] : List Value).toArray s 0 0 (inW G)) (F0 m 120 ls []) := by
        intro v2 v3 M H locs ls  hw hP hS hl
        unfold b_X10_outFor_120 at hw
        obtain ⟨x_1, ex_1⟩ : ∃ z : Int32, z = v3 + 1 := ⟨_, rfl⟩
        have hw := hw x_1 ex_1
        refine lv_iinc (v := x_1) (lv' := [(3, .int x_1), (0, .ref (G.1 + h)), (1, .int v1), (2, .int v2)]) hx hb dX10_outFor_120 hl (k := 3) rfl (by rw [ex_1]; rfl) (by decide) rfl (fun ls hl => ?_)
        refine lv_goto (tgt := 4) hx hb dX10_outFor_123 (by decide) ?_
        exact ih4 v2 x_1 M _ _ _ hw hP hS (lv_sub hl [1, 2, 3, 0] rfl)
      have J_96 : ∀ (v2 : Int32) (v3 : Int32) (v4 : Int32) (M : Mem) (H : Heap) (locs : List Loc) (ls : Array Slot), b_X10_outFor_96 h Q (l_X10_outFor_4 h Q v1 n4) v1 v2 v3 v4 M → va_P G.2.1 clsA (wl G M) H → va_S (inW G) s.heap H locs → lv_has ls 6 [(0, .ref (G.1 + h)), (1, .int v1), (2, .int v2), (3, .int v3), (4, .int v4)] → W p l e ({ frames := 3, cells := 0, slots := 0, locals := 75 } : Room) s m ([.ref (G.1 + h), .int a1] : List Value).toArray below meth c H locs 0 0 (MQ below (Pq G (Qi Q)) ([.ref (G.1 + h), .int a1] : List Value).toArray s 0 0 (inW G)) (F0 m 96 ls []) := by
        intro v2 v3 v4 M H locs ls  hw hP hS hl
        unfold b_X10_outFor_96 at hw
        refine lv_aload_n hx hb dX10_outFor_96 rfl (lv_at hl 0 rfl) ?_
        refine lv_iconst (v := 1) hx hb dX10_outFor_97 (by decide) ?_
        refine lv_iload hx hb dX10_outFor_98 (lv_at hl 4 rfl) ?_
        refine lv_aload_n hx hb dX10_outFor_100 rfl (lv_at hl 0 rfl) ?_
        refine lv_iload_n hx hb dX10_outFor_101 rfl (lv_at hl 3 rfl) ?_
        refine lv_iconst (v := 3) hx hb dX10_outFor_102 (by decide) ?_
        refine mw_V (As := [.int v3, .int 3]) (rest := [.int v4, .int 1, .ref (G.1 + h)]) (T := TX10) (N := 25) (n := 2) ⟨hx, hb, hml, hown, hts⟩ (so_X10_its l G h v3 3 M _ hw) wm_RX10_67 wi_yX10_its wv_yX10_its wn_RX10 wc_yX10_its (by decide) ⟨Nat.le_of_ble_eq_true rfl, Nat.le_of_ble_eq_true rfl⟩ ⟨rfl, rfl⟩ kh (by decide) (mk10 kh) rfl hSt hTb hP hS rfl hl.1 rfl (Nat.le_of_ble_eq_true rfl) dX10_outFor_103 ⟨Nat.le_refl 0, Nat.le_refl 0⟩ (fun rr_ M_2 H locs hq hP hS => ?_)
        obtain ⟨r_3, rfl, hw⟩ := hq
        refine lv_aload_n hx hb dX10_outFor_106 rfl (lv_at hl 0 rfl) ?_
        refine lv_iload_n hx hb dX10_outFor_107 rfl (lv_at hl 3 rfl) ?_
        refine lv_iconst (v := 1) hx hb dX10_outFor_108 (by decide) ?_
        refine mw_V (As := [.int v3, .int 1]) (rest := [.int r_3, .int v4, .int 1, .ref (G.1 + h)]) (T := TX10) (N := 25) (n := 2) ⟨hx, hb, hml, hown, hts⟩ (so_X10_its l G h v3 1 M_2 _ hw) wm_RX10_67 wi_yX10_its wv_yX10_its wn_RX10 wc_yX10_its (by decide) ⟨Nat.le_of_ble_eq_true rfl, Nat.le_of_ble_eq_true rfl⟩ ⟨rfl, rfl⟩ kh (by decide) (mk10 kh) rfl hSt hTb hP hS rfl hl.1 rfl (Nat.le_of_ble_eq_true rfl) dX10_outFor_109 ⟨Nat.le_refl 0, Nat.le_refl 0⟩ (fun rr_ M_4 H locs hq hP hS => ?_)
        obtain ⟨r_5, rfl, hw⟩ := hq
        refine mw_V (As := [.int 1, .int v4, .int r_3, .int r_5]) (rest := []) (T := TX10) (N := 25) (n := 4) ⟨hx, hb, hml, hown, hts⟩ (so_X10_lawOf l G h 1 v4 r_3 r_5 M_4 _ hw) wm_RX10_168 wi_yX10_lawOf wv_yX10_lawOf wn_RX10 wc_yX10_lawOf (by decide) ⟨Nat.le_of_ble_eq_true rfl, Nat.le_of_ble_eq_true rfl⟩ ⟨rfl, rfl⟩ kh (by decide) (mk10 kh) rfl hSt hTb hP hS rfl hl.1 rfl (Nat.le_of_ble_eq_true rfl) dX10_outFor_112 ⟨Nat.le_refl 0, Nat.le_refl 0⟩ (fun rr_ M_6 H locs hq hP hS => ?_)
        obtain ⟨r_7, rfl, hw⟩ := hq
        refine lv_if_eq (tgt := 120) hx hb dX10_outFor_115 (by decide) (fun c_8 => ?_) (fun c_8 => ?_)
        · have hw := hw.1 c_8
          exact J_120 v2 v3 M_6 _ _ _ hw hP hS (lv_sub hl [0, 1, 2, 3] rfl)
        · have hw := hw.2 c_8
          refine lv_iload_n hx hb dX10_outFor_118 rfl (lv_at hl 3 rfl) ?_
          refine lv_istore_n (lv' := [(2, .int v3), (0, .ref (G.1 + h)), (1, .int v1), (3, .int v3), (4, .int v4)]) hx hb dX10_outFor_119 rfl hl (by decide) rfl (fun ls hl => ?_)
          exact J_120 v3 v3 M_6 _ _ _ hw hP hS (lv_sub hl [1, 2, 0, 3] rfl)
      have J_66 : ∀ (v2 : Int32) (v3 : Int32) (v4 : Int32) (s0 : Int32) (M : Mem) (H : Heap) (locs : List Loc) (ls : Array Slot), b_X10_outFor_66 h Q (l_X10_outFor_4 h Q v1 n4) v1 v2 v3 v4 s0 M → va_P G.2.1 clsA (wl G M) H → va_S (inW G) s.heap H locs → lv_has ls 6 [(0, .ref (G.1 + h)), (1, .int v1), (2, .int v2), (3, .int v3), (4, .int v4)] → W p l e ({ frames := 3, cells := 0, slots := 0, locals := 75 } : Room) s m ([.ref (G.1 + h), .int a1] : List Value).toArray below meth c H locs 0 0 (MQ below (Pq G (Qi Q)) ([.ref (G.1 + h), .int a1] : List Value).toArray s 0 0 (inW G)) (F0 m 66 ls [.int s0]) := by
        intro v2 v3 v4 s0 M H locs ls  hw hP hS hl
        unfold b_X10_outFor_66 at hw
        refine lv_istore (lv' := [(5, .int s0), (0, .ref (G.1 + h)), (1, .int v1), (2, .int v2), (3, .int v3), (4, .int v4)]) hx hb dX10_outFor_66 hl (by decide) rfl (fun ls hl => ?_)
        refine lv_iload hx hb dX10_outFor_68 (lv_at hl 0 rfl) ?_
        refine lv_if_eq (tgt := 120) hx hb dX10_outFor_70 (by decide) (fun c_9 => ?_) (fun c_9 => ?_)
        · have hw := hw.1 c_9
          exact J_120 v2 v3 M _ _ _ hw hP hS (lv_sub hl [1, 2, 3, 4] rfl)
        · have hw := hw.2 c_9
          refine lv_iload_n hx hb dX10_outFor_73 rfl (lv_at hl 3 rfl) ?_
          refine lv_if_lt (tgt := 96) hx hb dX10_outFor_74 (by decide) (fun c_10 => ?_) (fun c_10 => ?_)
          · have hw := hw.1 c_10
            exact J_96 v2 v3 v4 M _ _ _ hw hP hS (lv_sub hl [1, 2, 3, 4, 5] rfl)
          · have hw := hw.2 c_10
            refine lv_iload hx hb dX10_outFor_77 (lv_at hl 5 rfl) ?_
            refine lv_aload_n hx hb dX10_outFor_79 rfl (lv_at hl 1 rfl) ?_
            refine lv_iload_n hx hb dX10_outFor_80 rfl (lv_at hl 2 rfl) ?_
            refine mw_V (As := [.int v1]) (rest := [.int v4]) (T := TX10) (N := 25) (n := 1) ⟨hx, hb, hml, hown, hts⟩ (so_X10_at l G h v1 M _ hw) wm_RX10_70 wi_yX10_at wv_yX10_at wn_RX10 wc_yX10_at (by decide) ⟨Nat.le_of_ble_eq_true rfl, Nat.le_of_ble_eq_true rfl⟩ ⟨rfl, rfl⟩ kh (by decide) (mk10 kh) rfl hSt hTb hP hS rfl hl.1 rfl (Nat.le_of_ble_eq_true rfl) dX10_outFor_81 ⟨Nat.le_refl 0, Nat.le_refl 0⟩ (fun rr_ M_11 H locs hq hP hS => ?_)
            obtain ⟨r_12, rfl, hw⟩ := hq
            refine lv_aload_n hx hb dX10_outFor_84 rfl (lv_at hl 1 rfl) ?_
            refine lv_iload_n hx hb dX10_outFor_85 rfl (lv_at hl 3 rfl) ?_
            refine lv_iconst (v := 2) hx hb dX10_outFor_86 (by decide) ?_
            refine mw_V (As := [.int v2, .int 2]) (rest := [.int r_12, .int v4]) (T := TX10) (N := 25) (n := 2) ⟨hx, hb, hml, hown, hts⟩ (so_X10_its l G h v2 2 M_11 _ hw) wm_RX10_67 wi_yX10_its wv_yX10_its wn_RX10 wc_yX10_its (by decide) ⟨Nat.le_of_ble_eq_true rfl, Nat.le_of_ble_eq_true rfl⟩ ⟨rfl, rfl⟩ kh (by decide) (mk10 kh) rfl hSt hTb hP hS rfl hl.1 rfl (Nat.le_of_ble_eq_true rfl) dX10_outFor_87 ⟨Nat.le_refl 0, Nat.le_refl 0⟩ (fun rr_ M_13 H locs hq hP hS => ?_)
            obtain ⟨r_14, rfl, hw⟩ := hq
            refine mw_Sx (As := [.int r_12, .int r_14]) (rest := [.int v4]) (n := 2) ⟨hx, hb, hml, hown, hts⟩ (so_X10_apart l G r_12 r_14 M_13 _ hw) wm_RX10_176 wt_yX10_apart wn_RX10 wc_yX10_apart (by decide) ⟨Nat.le_of_ble_eq_true rfl, Nat.le_of_ble_eq_true rfl⟩ ⟨rfl, rfl⟩ hSt hTb hP hS rfl hl.1 rfl (Nat.le_of_ble_eq_true rfl) dX10_outFor_90 ⟨Nat.le_refl 0, Nat.le_refl 0⟩ (fun rr_ M_15 H locs hq hP hS => ?_)
            obtain ⟨r_16, rfl, hw⟩ := hq
            refine lv_icmp_ge (tgt := 120) hx hb dX10_outFor_93 (by decide) (fun c_17 => ?_) (fun c_17 => ?_)
            · have hw := hw.1 c_17
              exact J_120 v2 v3 M_15 _ _ _ hw hP hS (lv_sub hl [1, 2, 3, 4] rfl)
            · have hw := hw.2 c_17
              exact J_96 v2 v3 v4 M_15 _ _ _ hw hP hS (lv_sub hl [1, 2, 3, 4, 5] rfl)
      have J_65 : ∀ (v2 : Int32) (v3 : Int32) (v4 : Int32) (M : Mem) (H : Heap) (locs : List Loc) (ls : Array Slot), b_X10_outFor_65 h Q (l_X10_outFor_4 h Q v1 n4) v1 v2 v3 v4 M → va_P G.2.1 clsA (wl G M) H → va_S (inW G) s.heap H locs → lv_has ls 6 [(0, .ref (G.1 + h)), (1, .int v1), (2, .int v2), (3, .int v3), (4, .int v4)] → W p l e ({ frames := 3, cells := 0, slots := 0, locals := 75 } : Room) s m ([.ref (G.1 + h), .int a1] : List Value).toArray below meth c H locs 0 0 (MQ below (Pq G (Qi Q)) ([.ref (G.1 + h), .int a1] : List Value).toArray s 0 0 (inW G)) (F0 m 65 ls []) := by
        intro v2 v3 v4 M H locs ls  hw hP hS hl
        unfold b_X10_outFor_65 at hw
        refine lv_iconst (v := 0) hx hb dX10_outFor_65 (by decide) ?_
        exact J_66 v2 v3 v4 0 M _ _ _ hw hP hS (lv_sub hl [0, 1, 2, 3, 4] rfl)
      intro v2 v3 M H locs ls  hw hP hS hl
      have hw : B_X10_outFor_4 h Q v1 (l_X10_outFor_4 h Q v1 n4) v2 v3 M := hw
      unfold B_X10_outFor_4 at hw
      refine lv_iload_n hx hb dX10_outFor_4 rfl (lv_at hl 3 rfl) ?_
      refine lv_aload_n hx hb dX10_outFor_5 rfl (lv_at hl 0 rfl) ?_
      refine mw_get (ci := 10) (v := .ref (G.1 + (h + 1))) (C := RX10) (T := TX10) (N := 25) hx hb ht inX10 hown hSt hP kh (by decide) (mk10 kh) rfl 0 (by decide) (ht _ wf_RX10_7) rfl rfl dX10_outFor_6 ?_
      refine lv_iconst (v := 2) hx hb dX10_outFor_9 (by decide) ?_
      refine mw_ialdc hx hb hSt hP (ks10_0 kh) (ln10_0 kh) 2 (by decide) dX10_outFor_10 ?_
      refine lv_icmp_ge (tgt := 126) hx hb dX10_outFor_11 (by decide) (fun c_19 => ?_) (fun c_19 => ?_)
      · have hw := hw.1 c_19
        refine lv_iload_n hx hb dX10_outFor_126 rfl (lv_at hl 2 rfl) ?_
        exact W.iret hx hb hr (mw_end hP hSt hTb hS ⟨_, rfl, hw⟩) hS.2.2 dX10_outFor_127
      · have hw := hw.2 c_19
        refine lv_aload_n hx hb dX10_outFor_14 rfl (lv_at hl 0 rfl) ?_
        refine lv_iload_n hx hb dX10_outFor_15 rfl (lv_at hl 1 rfl) ?_
        refine mw_V (As := [.int v1]) (rest := []) (T := TX10) (N := 25) (n := 1) ⟨hx, hb, hml, hown, hts⟩ (so_X10_at l G h v1 M _ hw) wm_RX10_70 wi_yX10_at wv_yX10_at wn_RX10 wc_yX10_at (by decide) ⟨Nat.le_of_ble_eq_true rfl, Nat.le_of_ble_eq_true rfl⟩ ⟨rfl, rfl⟩ kh (by decide) (mk10 kh) rfl hSt hTb hP hS rfl hl.1 rfl (Nat.le_of_ble_eq_true rfl) dX10_outFor_16 ⟨Nat.le_refl 0, Nat.le_refl 0⟩ (fun rr_ M_20 H locs hq hP hS => ?_)
        obtain ⟨r_21, rfl, hw⟩ := hq
        refine lv_aload_n hx hb dX10_outFor_19 rfl (lv_at hl 0 rfl) ?_
        refine lv_iload_n hx hb dX10_outFor_20 rfl (lv_at hl 3 rfl) ?_
        refine lv_iconst (v := 2) hx hb dX10_outFor_21 (by decide) ?_
        refine mw_V (As := [.int v3, .int 2]) (rest := [.int r_21]) (T := TX10) (N := 25) (n := 2) ⟨hx, hb, hml, hown, hts⟩ (so_X10_its l G h v3 2 M_20 _ hw) wm_RX10_67 wi_yX10_its wv_yX10_its wn_RX10 wc_yX10_its (by decide) ⟨Nat.le_of_ble_eq_true rfl, Nat.le_of_ble_eq_true rfl⟩ ⟨rfl, rfl⟩ kh (by decide) (mk10 kh) rfl hSt hTb hP hS rfl hl.1 rfl (Nat.le_of_ble_eq_true rfl) dX10_outFor_22 ⟨Nat.le_refl 0, Nat.le_refl 0⟩ (fun rr_ M_22 H locs hq hP hS => ?_)
        obtain ⟨r_23, rfl, hw⟩ := hq
        refine mw_Sx (As := [.int r_21, .int r_23]) (rest := []) (n := 2) ⟨hx, hb, hml, hown, hts⟩ (so_X10_apart l G r_21 r_23 M_22 _ hw) wm_RX10_176 wt_yX10_apart wn_RX10 wc_yX10_apart (by decide) ⟨Nat.le_of_ble_eq_true rfl, Nat.le_of_ble_eq_true rfl⟩ ⟨rfl, rfl⟩ hSt hTb hP hS rfl hl.1 rfl (Nat.le_of_ble_eq_true rfl) dX10_outFor_25 ⟨Nat.le_refl 0, Nat.le_refl 0⟩ (fun rr_ M_24 H locs hq hP hS => ?_)
        obtain ⟨r_25, rfl, hw⟩ := hq
        refine lv_istore (lv' := [(4, .int r_25), (0, .ref (G.1 + h)), (1, .int v1), (2, .int v2), (3, .int v3)]) hx hb dX10_outFor_28 hl (by decide) rfl (fun ls hl => ?_)
        refine lv_aload_n hx hb dX10_outFor_30 rfl (lv_at hl 1 rfl) ?_
        refine lv_iload_n hx hb dX10_outFor_31 rfl (lv_at hl 4 rfl) ?_
        refine lv_iconst (v := 5) hx hb dX10_outFor_32 (by decide) ?_
        refine mw_V (As := [.int v3, .int 5]) (rest := []) (T := TX10) (N := 25) (n := 2) ⟨hx, hb, hml, hown, hts⟩ (so_X10_its l G h v3 5 M_24 _ hw) wm_RX10_67 wi_yX10_its wv_yX10_its wn_RX10 wc_yX10_its (by decide) ⟨Nat.le_of_ble_eq_true rfl, Nat.le_of_ble_eq_true rfl⟩ ⟨rfl, rfl⟩ kh (by decide) (mk10 kh) rfl hSt hTb hP hS rfl hl.1 rfl (Nat.le_of_ble_eq_true rfl) dX10_outFor_33 ⟨Nat.le_refl 0, Nat.le_refl 0⟩ (fun rr_ M_26 H locs hq hP hS => ?_)
        obtain ⟨r_27, rfl, hw⟩ := hq
        refine lv_if_ne (tgt := 65) hx hb dX10_outFor_36 (by decide) (fun c_28 => ?_) (fun c_28 => ?_)
        · have hw := hw.1 c_28
          exact J_65 v2 v3 r_25 M_26 _ _ _ hw hP hS (lv_sub hl [1, 2, 3, 4, 0] rfl)
        · have hw := hw.2 c_28
          refine lv_aload_n hx hb dX10_outFor_39 rfl (lv_at hl 1 rfl) ?_
          refine lv_iload_n hx hb dX10_outFor_40 rfl (lv_at hl 4 rfl) ?_
          refine mw_V (As := [.int v3]) (rest := []) (T := TX10) (N := 25) (n := 1) ⟨hx, hb, hml, hown, hts⟩ (so_X10_isLost l G h v3 M_26 _ hw) wm_RX10_179 wi_yX10_isLost wv_yX10_isLost wn_RX10 wc_yX10_isLost (by decide) ⟨Nat.le_of_ble_eq_true rfl, Nat.le_of_ble_eq_true rfl⟩ ⟨rfl, rfl⟩ kh (by decide) (mk10 kh) rfl hSt hTb hP hS rfl hl.1 rfl (Nat.le_of_ble_eq_true rfl) dX10_outFor_41 ⟨Nat.le_refl 0, Nat.le_refl 0⟩ (fun rr_ M_29 H locs hq hP hS => ?_)
          obtain ⟨r_30, rfl, hw⟩ := hq
          refine lv_if_ne (tgt := 65) hx hb dX10_outFor_44 (by decide) (fun c_31 => ?_) (fun c_31 => ?_)
          · have hw := hw.1 c_31
            exact J_65 v2 v3 r_25 M_29 _ _ _ hw hP hS (lv_sub hl [1, 2, 3, 4, 0] rfl)
          · have hw := hw.2 c_31
            refine lv_aload_n hx hb dX10_outFor_47 rfl (lv_at hl 1 rfl) ?_
            refine lv_iload_n hx hb dX10_outFor_48 rfl (lv_at hl 4 rfl) ?_
            refine lv_iconst (v := 4) hx hb dX10_outFor_49 (by decide) ?_
            refine mw_V (As := [.int v3, .int 4]) (rest := []) (T := TX10) (N := 25) (n := 2) ⟨hx, hb, hml, hown, hts⟩ (so_X10_its l G h v3 4 M_29 _ hw) wm_RX10_67 wi_yX10_its wv_yX10_its wn_RX10 wc_yX10_its (by decide) ⟨Nat.le_of_ble_eq_true rfl, Nat.le_of_ble_eq_true rfl⟩ ⟨rfl, rfl⟩ kh (by decide) (mk10 kh) rfl hSt hTb hP hS rfl hl.1 rfl (Nat.le_of_ble_eq_true rfl) dX10_outFor_50 ⟨Nat.le_refl 0, Nat.le_refl 0⟩ (fun rr_ M_32 H locs hq hP hS => ?_)
            obtain ⟨r_33, rfl, hw⟩ := hq
            refine lv_iload_n hx hb dX10_outFor_53 rfl (lv_at hl 2 rfl) ?_
            refine lv_ishr hx hb dX10_outFor_54 ?_
            refine lv_iconst (v := 1) hx hb dX10_outFor_55 (by decide) ?_
            refine lv_iand hx hb dX10_outFor_56 ?_
            refine lv_iconst (v := 1) hx hb dX10_outFor_57 (by decide) ?_
            refine lv_icmp_ne (tgt := 65) hx hb dX10_outFor_58 (by decide) (fun c_34 => ?_) (fun c_34 => ?_)
            · have hw := hw.1 c_34
              exact J_65 v2 v3 r_25 M_32 _ _ _ hw hP hS (lv_sub hl [1, 2, 3, 4, 0] rfl)
            · have hw := hw.2 c_34
              refine lv_iconst (v := 1) hx hb dX10_outFor_61 (by decide) ?_
              refine lv_goto (tgt := 66) hx hb dX10_outFor_62 (by decide) ?_
              exact J_66 v2 v3 r_25 1 M_32 _ _ _ hw hP hS (lv_sub hl [1, 2, 3, 4, 0] rfl)
  refine lv_iconst (v := (-1)) hx hb dX10_outFor_0 (by decide) ?_
  refine lv_istore_n (lv' := [(2, .int (-1)), (0, .ref (G.1 + h)), (1, .int a1)]) hx hb dX10_outFor_1 rfl hl (by decide) rfl (fun ls hl => ?_)
  refine lv_iconst (v := 0) hx hb dX10_outFor_2 (by decide) ?_
  refine lv_istore_n (lv' := [(3, .int 0), (2, .int (-1)), (0, .ref (G.1 + h)), (1, .int a1)]) hx hb dX10_outFor_3 rfl hl (by decide) rfl (fun ls hl => ?_)
  obtain ⟨n_, hw⟩ := hw
  exact L_4 a1 n_ (-1) 0 M _ _ _ hw hP hS (lv_sub hl [2, 3, 1, 0] rfl)
def b_X10_ofSeeker_17 (h : Nat) (Q : Int32 → Mem → Prop) (M : Mem) : Prop :=
  wp_X10_errs h (-1000000001) M (fun r_2 M_1 => Q r_2 M_1)
def wp_X10_ofSeeker (h : Nat) (a1 : Int32) (a2 : Int32) (M : Mem) (Q : Int32 → Mem → Prop) : Prop :=
  kdT h = 10 ∧ (wp_X10_isSeeker h a1 M (fun r_4 M_3 => (r_4 = 0 → b_X10_ofSeeker_17 h Q M_3) ∧ (¬ r_4 = 0 → wp_X10_in a2 0 2 M_3 (fun r_7 M_6 => (¬ r_7 = 0 → (2 ≤ a2 → wp_X10_outFor h a1 M_6 (fun r_11 M_10 => Q r_11 M_10)) ∧ (¬ 2 ≤ a2 → vp_in ((18 + (2 * a1)) + a2) 242 ∧ (Q (M_6 (h + 1) ((18 + (2 * a1)) + a2).toNatClampNeg) M_6))) ∧ (r_7 = 0 → b_X10_ofSeeker_17 h Q M_6)))))
set_option maxHeartbeats 4000000 in
set_option maxRecDepth 100000 in
theorem so_X10_ofSeeker (l : Launch) (G : Gm) (h : Nat) (a1 : Int32) (a2 : Int32) (M : Mem) (Q : Int32 → Mem → Prop) (hw : wp_X10_ofSeeker h a1 a2 M Q) : Ct l G yX10_ofSeeker cX10_ofSeeker 3 (some .int) ({ frames := 4, cells := 0, slots := 0, locals := 100 } : Room) [.ref (G.1 + h), .int a1, .int a2] M (Qi Q) := by
  unfold wp_X10_ofSeeker at hw
  obtain ⟨kh, hw⟩ := hw
  refine ct_of (by decide) (Nat.le_of_ble_eq_true rfl) ?_
  intro p e s m below meth c E_ ls H hl hP hS
  obtain ⟨hx, hb, hml, hown, hts, ht, hr, hlocks, hSt, hTb⟩ := E_
  have hl : lv_has ls 3 [(0, .ref (G.1 + h)), (1, .int a1), (2, .int a2)] := hl
  have J_17 : ∀  (M : Mem) (H : Heap) (locs : List Loc) (ls : Array Slot), b_X10_ofSeeker_17 h Q M → va_P G.2.1 clsA (wl G M) H → va_S (inW G) s.heap H locs → lv_has ls 3 [(0, .ref (G.1 + h))] → W p l e ({ frames := 4, cells := 0, slots := 0, locals := 100 } : Room) s m ([.ref (G.1 + h), .int a1, .int a2] : List Value).toArray below meth c H locs 0 0 (MQ below (Pq G (Qi Q)) ([.ref (G.1 + h), .int a1, .int a2] : List Value).toArray s 0 0 (inW G)) (F0 m 17 ls []) := by
    intro  M H locs ls  hw hP hS hl
    unfold b_X10_ofSeeker_17 at hw
    refine lv_aload_n hx hb dX10_ofSeeker_17 rfl (lv_at hl 0 rfl) ?_
    refine lv_ldc (v := (-1000000001)) hx hb hown (ht _ wk_RX10_62) dX10_ofSeeker_18 ?_
    refine mw_V (As := [.int (-1000000001)]) (rest := []) (T := TX10) (N := 25) (n := 1) ⟨hx, hb, hml, hown, hts⟩ (so_X10_errs l G h (-1000000001) M _ hw) wm_RX10_63 wi_yX10_errs wv_yX10_errs wn_RX10 wc_yX10_errs (by decide) ⟨Nat.le_of_ble_eq_true rfl, Nat.le_of_ble_eq_true rfl⟩ ⟨rfl, rfl⟩ kh (by decide) (mk10 kh) rfl hSt hTb hP hS rfl hl.1 rfl (Nat.le_of_ble_eq_true rfl) dX10_ofSeeker_20 ⟨Nat.le_refl 0, Nat.le_refl 0⟩ (fun rr_ M_1 H locs hq hP hS => ?_)
    obtain ⟨r_2, rfl, hw⟩ := hq
    exact W.iret hx hb hr (mw_end hP hSt hTb hS ⟨_, rfl, hw⟩) hS.2.2 dX10_ofSeeker_23
  refine lv_aload_n hx hb dX10_ofSeeker_0 rfl (lv_at hl 0 rfl) ?_
  refine lv_iload_n hx hb dX10_ofSeeker_1 rfl (lv_at hl 1 rfl) ?_
  refine mw_V (As := [.int a1]) (rest := []) (T := TX10) (N := 25) (n := 1) ⟨hx, hb, hml, hown, hts⟩ (so_X10_isSeeker l G h a1 M _ hw) wm_RX10_78 wi_yX10_isSeeker wv_yX10_isSeeker wn_RX10 wc_yX10_isSeeker (by decide) ⟨Nat.le_of_ble_eq_true rfl, Nat.le_of_ble_eq_true rfl⟩ ⟨rfl, rfl⟩ kh (by decide) (mk10 kh) rfl hSt hTb hP hS rfl hl.1 rfl (Nat.le_of_ble_eq_true rfl) dX10_ofSeeker_2 ⟨Nat.le_refl 0, Nat.le_refl 0⟩ (fun rr_ M_3 H locs hq hP hS => ?_)
  obtain ⟨r_4, rfl, hw⟩ := hq
  refine lv_if_eq (tgt := 17) hx hb dX10_ofSeeker_5 (by decide) (fun c_5 => ?_) (fun c_5 => ?_)
  · have hw := hw.1 c_5
    exact J_17 M_3 _ _ _ hw hP hS (lv_sub hl [0] rfl)
  · have hw := hw.2 c_5
    refine lv_iload_n hx hb dX10_ofSeeker_8 rfl (lv_at hl 2 rfl) ?_
    refine lv_iconst (v := 0) hx hb dX10_ofSeeker_9 (by decide) ?_
    refine lv_iconst (v := 2) hx hb dX10_ofSeeker_10 (by decide) ?_
    refine mw_Sx (As := [.int a2, .int 0, .int 2]) (rest := []) (n := 3) ⟨hx, hb, hml, hown, hts⟩ (so_X10_in l G a2 0 2 M_3 _ hw) wm_RX10_50 wt_yX10_in wn_RX10 wc_yX10_in (by decide) ⟨Nat.le_of_ble_eq_true rfl, Nat.le_of_ble_eq_true rfl⟩ ⟨rfl, rfl⟩ hSt hTb hP hS rfl hl.1 rfl (Nat.le_of_ble_eq_true rfl) dX10_ofSeeker_11 ⟨Nat.le_refl 0, Nat.le_refl 0⟩ (fun rr_ M_6 H locs hq hP hS => ?_)
    obtain ⟨r_7, rfl, hw⟩ := hq
    refine lv_if_ne (tgt := 24) hx hb dX10_ofSeeker_14 (by decide) (fun c_8 => ?_) (fun c_8 => ?_)
    · have hw := hw.1 c_8
      refine lv_iload_n hx hb dX10_ofSeeker_24 rfl (lv_at hl 2 rfl) ?_
      refine lv_iconst (v := 2) hx hb dX10_ofSeeker_25 (by decide) ?_
      refine lv_icmp_ge (tgt := 45) hx hb dX10_ofSeeker_26 (by decide) (fun c_9 => ?_) (fun c_9 => ?_)
      · have hw := hw.1 c_9
        refine lv_aload_n hx hb dX10_ofSeeker_45 rfl (lv_at hl 0 rfl) ?_
        refine lv_iload_n hx hb dX10_ofSeeker_46 rfl (lv_at hl 1 rfl) ?_
        refine mw_V (As := [.int a1]) (rest := []) (T := TX10) (N := 25) (n := 1) ⟨hx, hb, hml, hown, hts⟩ (so_X10_outFor l G h a1 M_6 _ hw) wm_RX10_81 wi_yX10_outFor wv_yX10_outFor wn_RX10 wc_yX10_outFor (by decide) ⟨Nat.le_of_ble_eq_true rfl, Nat.le_of_ble_eq_true rfl⟩ ⟨rfl, rfl⟩ kh (by decide) (mk10 kh) rfl hSt hTb hP hS rfl hl.1 rfl (Nat.le_of_ble_eq_true rfl) dX10_ofSeeker_47 ⟨Nat.le_refl 0, Nat.le_refl 0⟩ (fun rr_ M_10 H locs hq hP hS => ?_)
        obtain ⟨r_11, rfl, hw⟩ := hq
        exact W.iret hx hb hr (mw_end hP hSt hTb hS ⟨_, rfl, hw⟩) hS.2.2 dX10_ofSeeker_50
      · have hw := hw.2 c_9
        refine lv_aload_n hx hb dX10_ofSeeker_29 rfl (lv_at hl 0 rfl) ?_
        refine mw_get (ci := 10) (v := .ref (G.1 + (h + 1))) (C := RX10) (T := TX10) (N := 25) hx hb ht inX10 hown hSt hP kh (by decide) (mk10 kh) rfl 0 (by decide) (ht _ wf_RX10_7) rfl rfl dX10_ofSeeker_30 ?_
        refine lv_bipush (v := 18) hx hb dX10_ofSeeker_33 (by decide) ?_
        refine lv_iconst (v := 2) hx hb dX10_ofSeeker_35 (by decide) ?_
        refine lv_iload_n hx hb dX10_ofSeeker_36 rfl (lv_at hl 1 rfl) ?_
        refine lv_imul hx hb dX10_ofSeeker_37 ?_
        refine lv_iadd hx hb dX10_ofSeeker_38 ?_
        refine lv_iload_n hx hb dX10_ofSeeker_39 rfl (lv_at hl 2 rfl) ?_
        refine lv_iadd hx hb dX10_ofSeeker_40 ?_
        obtain ⟨c_12, hw⟩ := hw
        refine mw_iald hx hb hSt hP (ks10_0 kh) (by rw [(ln10_0 kh)]; exact c_12) dX10_ofSeeker_41 ?_
        refine lv_goto (tgt := 50) hx hb dX10_ofSeeker_42 (by decide) ?_
        exact W.iret hx hb hr (mw_end hP hSt hTb hS ⟨_, rfl, hw⟩) hS.2.2 dX10_ofSeeker_50
    · have hw := hw.2 c_8
      exact J_17 M_6 _ _ _ hw hP hS (lv_sub hl [0] rfl)
def b_X10_send_62 (h : Nat) (Q : Int32 → Mem → Prop) (M : Mem) : Prop :=
  wp_X10_errs h (-1000000001) M (fun r_2 M_1 => Q r_2 M_1)
def b_X10_send_31 (h : Nat) (Q : Int32 → Mem → Prop) (v1 : Int32) (v2 : Int32) (v3 : Int32) (s0 : Int32) (M : Mem) : Prop :=
  wp_X10_isSeeker h v1 M (fun r_4 M_3 => (r_4 = 0 → b_X10_send_62 h Q M_3) ∧ (¬ r_4 = 0 → (s0 = 0 → b_X10_send_62 h Q M_3) ∧ (¬ s0 = 0 → wp_X10_becomes h ((18 + (2 * v1)) + v2) v3 M_3 (fun r_8 M_7 => Q r_8 M_7))))
def b_X10_send_30 (h : Nat) (Q : Int32 → Mem → Prop) (v1 : Int32) (v2 : Int32) (v3 : Int32) (M : Mem) : Prop :=
  b_X10_send_31 h Q v1 v2 v3 0 M
def wp_X10_send (h : Nat) (a1 : Int32) (a2 : Int32) (a3 : Int32) (M : Mem) (Q : Int32 → Mem → Prop) : Prop :=
  kdT h = 10 ∧ ((¬ a2 = 0 → (¬ a2 = 1 → b_X10_send_30 h Q a1 a2 a3 M) ∧ (a2 = 1 → wp_X10_in a3 0 99 M (fun r_12 M_11 => (r_12 = 0 → b_X10_send_30 h Q a1 a2 a3 M_11) ∧ (¬ r_12 = 0 → b_X10_send_31 h Q a1 a2 a3 1 M_11)))) ∧ (a2 = 0 → wp_X10_isCell a3 M (fun r_15 M_14 => b_X10_send_31 h Q a1 a2 a3 r_15 M_14)))
set_option maxHeartbeats 4000000 in
set_option maxRecDepth 100000 in
theorem so_X10_send (l : Launch) (G : Gm) (h : Nat) (a1 : Int32) (a2 : Int32) (a3 : Int32) (M : Mem) (Q : Int32 → Mem → Prop) (hw : wp_X10_send h a1 a2 a3 M Q) : Ct l G yX10_send cX10_send 5 (some .int) ({ frames := 2, cells := 0, slots := 0, locals := 43 } : Room) [.ref (G.1 + h), .int a1, .int a2, .int a3] M (Qi Q) := by
  unfold wp_X10_send at hw
  obtain ⟨kh, hw⟩ := hw
  refine ct_of (by decide) (Nat.le_of_ble_eq_true rfl) ?_
  intro p e s m below meth c E_ ls H hl hP hS
  obtain ⟨hx, hb, hml, hown, hts, ht, hr, hlocks, hSt, hTb⟩ := E_
  have hl : lv_has ls 5 [(0, .ref (G.1 + h)), (1, .int a1), (2, .int a2), (3, .int a3)] := hl
  have J_62 : ∀  (M : Mem) (H : Heap) (locs : List Loc) (ls : Array Slot), b_X10_send_62 h Q M → va_P G.2.1 clsA (wl G M) H → va_S (inW G) s.heap H locs → lv_has ls 5 [(0, .ref (G.1 + h))] → W p l e ({ frames := 2, cells := 0, slots := 0, locals := 43 } : Room) s m ([.ref (G.1 + h), .int a1, .int a2, .int a3] : List Value).toArray below meth c H locs 0 0 (MQ below (Pq G (Qi Q)) ([.ref (G.1 + h), .int a1, .int a2, .int a3] : List Value).toArray s 0 0 (inW G)) (F0 m 62 ls []) := by
    intro  M H locs ls  hw hP hS hl
    unfold b_X10_send_62 at hw
    refine lv_aload_n hx hb dX10_send_62 rfl (lv_at hl 0 rfl) ?_
    refine lv_ldc (v := (-1000000001)) hx hb hown (ht _ wk_RX10_62) dX10_send_63 ?_
    refine mw_V (As := [.int (-1000000001)]) (rest := []) (T := TX10) (N := 25) (n := 1) ⟨hx, hb, hml, hown, hts⟩ (so_X10_errs l G h (-1000000001) M _ hw) wm_RX10_63 wi_yX10_errs wv_yX10_errs wn_RX10 wc_yX10_errs (by decide) ⟨Nat.le_of_ble_eq_true rfl, Nat.le_of_ble_eq_true rfl⟩ ⟨rfl, rfl⟩ kh (by decide) (mk10 kh) rfl hSt hTb hP hS rfl hl.1 rfl (Nat.le_of_ble_eq_true rfl) dX10_send_65 ⟨Nat.le_refl 0, Nat.le_refl 0⟩ (fun rr_ M_1 H locs hq hP hS => ?_)
    obtain ⟨r_2, rfl, hw⟩ := hq
    exact W.iret hx hb hr (mw_end hP hSt hTb hS ⟨_, rfl, hw⟩) hS.2.2 dX10_send_68
  have J_31 : ∀ (v1 : Int32) (v2 : Int32) (v3 : Int32) (s0 : Int32) (M : Mem) (H : Heap) (locs : List Loc) (ls : Array Slot), b_X10_send_31 h Q v1 v2 v3 s0 M → va_P G.2.1 clsA (wl G M) H → va_S (inW G) s.heap H locs → lv_has ls 5 [(0, .ref (G.1 + h)), (1, .int v1), (2, .int v2), (3, .int v3)] → W p l e ({ frames := 2, cells := 0, slots := 0, locals := 43 } : Room) s m ([.ref (G.1 + h), .int a1, .int a2, .int a3] : List Value).toArray below meth c H locs 0 0 (MQ below (Pq G (Qi Q)) ([.ref (G.1 + h), .int a1, .int a2, .int a3] : List Value).toArray s 0 0 (inW G)) (F0 m 31 ls [.int s0]) := by
    intro v1 v2 v3 s0 M H locs ls  hw hP hS hl
    unfold b_X10_send_31 at hw
    refine lv_istore (lv' := [(4, .int s0), (0, .ref (G.1 + h)), (1, .int v1), (2, .int v2), (3, .int v3)]) hx hb dX10_send_31 hl (by decide) rfl (fun ls hl => ?_)
    refine lv_aload_n hx hb dX10_send_33 rfl (lv_at hl 1 rfl) ?_
    refine lv_iload_n hx hb dX10_send_34 rfl (lv_at hl 2 rfl) ?_
    refine mw_V (As := [.int v1]) (rest := []) (T := TX10) (N := 25) (n := 1) ⟨hx, hb, hml, hown, hts⟩ (so_X10_isSeeker l G h v1 M _ hw) wm_RX10_78 wi_yX10_isSeeker wv_yX10_isSeeker wn_RX10 wc_yX10_isSeeker (by decide) ⟨Nat.le_of_ble_eq_true rfl, Nat.le_of_ble_eq_true rfl⟩ ⟨rfl, rfl⟩ kh (by decide) (mk10 kh) rfl hSt hTb hP hS rfl hl.1 rfl (Nat.le_of_ble_eq_true rfl) dX10_send_35 ⟨Nat.le_refl 0, Nat.le_refl 0⟩ (fun rr_ M_3 H locs hq hP hS => ?_)
    obtain ⟨r_4, rfl, hw⟩ := hq
    refine lv_if_eq (tgt := 62) hx hb dX10_send_38 (by decide) (fun c_5 => ?_) (fun c_5 => ?_)
    · have hw := hw.1 c_5
      exact J_62 M_3 _ _ _ hw hP hS (lv_sub hl [1] rfl)
    · have hw := hw.2 c_5
      refine lv_iload hx hb dX10_send_41 (lv_at hl 0 rfl) ?_
      refine lv_if_eq (tgt := 62) hx hb dX10_send_43 (by decide) (fun c_6 => ?_) (fun c_6 => ?_)
      · have hw := hw.1 c_6
        exact J_62 M_3 _ _ _ hw hP hS (lv_sub hl [1] rfl)
      · have hw := hw.2 c_6
        refine lv_aload_n hx hb dX10_send_46 rfl (lv_at hl 1 rfl) ?_
        refine lv_bipush (v := 18) hx hb dX10_send_47 (by decide) ?_
        refine lv_iconst (v := 2) hx hb dX10_send_49 (by decide) ?_
        refine lv_iload_n hx hb dX10_send_50 rfl (lv_at hl 2 rfl) ?_
        refine lv_imul hx hb dX10_send_51 ?_
        refine lv_iadd hx hb dX10_send_52 ?_
        refine lv_iload_n hx hb dX10_send_53 rfl (lv_at hl 3 rfl) ?_
        refine lv_iadd hx hb dX10_send_54 ?_
        refine lv_iload_n hx hb dX10_send_55 rfl (lv_at hl 4 rfl) ?_
        refine mw_V (As := [.int ((18 + (2 * v1)) + v2), .int v3]) (rest := []) (T := TX10) (N := 25) (n := 2) ⟨hx, hb, hml, hown, hts⟩ (so_X10_becomes l G h ((18 + (2 * v1)) + v2) v3 M_3 _ hw) wm_RX10_58 wi_yX10_becomes wv_yX10_becomes wn_RX10 wc_yX10_becomes (by decide) ⟨Nat.le_of_ble_eq_true rfl, Nat.le_of_ble_eq_true rfl⟩ ⟨rfl, rfl⟩ kh (by decide) (mk10 kh) rfl hSt hTb hP hS rfl hl.1 rfl (Nat.le_of_ble_eq_true rfl) dX10_send_56 ⟨Nat.le_refl 0, Nat.le_refl 0⟩ (fun rr_ M_7 H locs hq hP hS => ?_)
        obtain ⟨r_8, rfl, hw⟩ := hq
        refine lv_goto (tgt := 68) hx hb dX10_send_59 (by decide) ?_
        exact W.iret hx hb hr (mw_end hP hSt hTb hS ⟨_, rfl, hw⟩) hS.2.2 dX10_send_68
  have J_30 : ∀ (v1 : Int32) (v2 : Int32) (v3 : Int32) (M : Mem) (H : Heap) (locs : List Loc) (ls : Array Slot), b_X10_send_30 h Q v1 v2 v3 M → va_P G.2.1 clsA (wl G M) H → va_S (inW G) s.heap H locs → lv_has ls 5 [(0, .ref (G.1 + h)), (1, .int v1), (2, .int v2), (3, .int v3)] → W p l e ({ frames := 2, cells := 0, slots := 0, locals := 43 } : Room) s m ([.ref (G.1 + h), .int a1, .int a2, .int a3] : List Value).toArray below meth c H locs 0 0 (MQ below (Pq G (Qi Q)) ([.ref (G.1 + h), .int a1, .int a2, .int a3] : List Value).toArray s 0 0 (inW G)) (F0 m 30 ls []) := by
    intro v1 v2 v3 M H locs ls  hw hP hS hl
    unfold b_X10_send_30 at hw
    refine lv_iconst (v := 0) hx hb dX10_send_30 (by decide) ?_
    exact J_31 v1 v2 v3 0 M _ _ _ hw hP hS (lv_sub hl [0, 1, 2, 3] rfl)
  refine lv_iload_n hx hb dX10_send_0 rfl (lv_at hl 2 rfl) ?_
  refine lv_if_ne (tgt := 11) hx hb dX10_send_1 (by decide) (fun c_9 => ?_) (fun c_9 => ?_)
  · have hw := hw.1 c_9
    refine lv_iload_n hx hb dX10_send_11 rfl (lv_at hl 2 rfl) ?_
    refine lv_iconst (v := 1) hx hb dX10_send_12 (by decide) ?_
    refine lv_icmp_ne (tgt := 30) hx hb dX10_send_13 (by decide) (fun c_10 => ?_) (fun c_10 => ?_)
    · have hw := hw.1 c_10
      exact J_30 a1 a2 a3 M _ _ _ hw hP hS (lv_sub hl [0, 1, 2, 3] rfl)
    · have hw := hw.2 c_10
      refine lv_iload_n hx hb dX10_send_16 rfl (lv_at hl 3 rfl) ?_
      refine lv_iconst (v := 0) hx hb dX10_send_17 (by decide) ?_
      refine lv_bipush (v := 99) hx hb dX10_send_18 (by decide) ?_
      refine mw_Sx (As := [.int a3, .int 0, .int 99]) (rest := []) (n := 3) ⟨hx, hb, hml, hown, hts⟩ (so_X10_in l G a3 0 99 M _ hw) wm_RX10_50 wt_yX10_in wn_RX10 wc_yX10_in (by decide) ⟨Nat.le_of_ble_eq_true rfl, Nat.le_of_ble_eq_true rfl⟩ ⟨rfl, rfl⟩ hSt hTb hP hS rfl hl.1 rfl (Nat.le_of_ble_eq_true rfl) dX10_send_20 ⟨Nat.le_refl 0, Nat.le_refl 0⟩ (fun rr_ M_11 H locs hq hP hS => ?_)
      obtain ⟨r_12, rfl, hw⟩ := hq
      refine lv_if_eq (tgt := 30) hx hb dX10_send_23 (by decide) (fun c_13 => ?_) (fun c_13 => ?_)
      · have hw := hw.1 c_13
        exact J_30 a1 a2 a3 M_11 _ _ _ hw hP hS (lv_sub hl [0, 1, 2, 3] rfl)
      · have hw := hw.2 c_13
        refine lv_iconst (v := 1) hx hb dX10_send_26 (by decide) ?_
        refine lv_goto (tgt := 31) hx hb dX10_send_27 (by decide) ?_
        exact J_31 a1 a2 a3 1 M_11 _ _ _ hw hP hS (lv_sub hl [0, 1, 2, 3] rfl)
  · have hw := hw.2 c_9
    refine lv_iload_n hx hb dX10_send_4 rfl (lv_at hl 3 rfl) ?_
    refine mw_Sx (As := [.int a3]) (rest := []) (n := 1) ⟨hx, hb, hml, hown, hts⟩ (so_X10_isCell l G a3 M _ hw) wm_RX10_54 wt_yX10_isCell wn_RX10 wc_yX10_isCell (by decide) ⟨Nat.le_of_ble_eq_true rfl, Nat.le_of_ble_eq_true rfl⟩ ⟨rfl, rfl⟩ hSt hTb hP hS rfl hl.1 rfl (Nat.le_of_ble_eq_true rfl) dX10_send_5 ⟨Nat.le_refl 0, Nat.le_refl 0⟩ (fun rr_ M_14 H locs hq hP hS => ?_)
    obtain ⟨r_15, rfl, hw⟩ := hq
    refine lv_goto (tgt := 31) hx hb dX10_send_8 (by decide) ?_
    exact J_31 a1 a2 a3 r_15 M_14 _ _ _ hw hP hS (lv_sub hl [0, 1, 2, 3] rfl)
def wp_X10_gets (h : Nat) (a1 : Int32) (a2 : Int32) (a3 : Int32) (M : Mem) (Q : Mem → Prop) : Prop :=
  kdT h = 10 ∧ (vp_in ((30 + (6 * a1)) + a2) 242 ∧ ∀ M_2, M_2 = mu M (h + 1) ((30 + (6 * a1)) + a2).toNatClampNeg a3 → Q M_2)
set_option maxHeartbeats 4000000 in
set_option maxRecDepth 100000 in
theorem so_X10_gets (l : Launch) (G : Gm) (h : Nat) (a1 : Int32) (a2 : Int32) (a3 : Int32) (M : Mem) (Q : Mem → Prop) (hw : wp_X10_gets h a1 a2 a3 M Q) : Ct l G yX10_gets cX10_gets 4 none ({ frames := 0, cells := 0, slots := 0, locals := 0 } : Room) [.ref (G.1 + h), .int a1, .int a2, .int a3] M (Qv Q) := by
  unfold wp_X10_gets at hw
  obtain ⟨kh, hw⟩ := hw
  refine ct_of (by decide) (Nat.le_of_ble_eq_true rfl) ?_
  intro p e s m below meth c E_ ls H hl hP hS
  obtain ⟨hx, hb, hml, hown, hts, ht, hr, hlocks, hSt, hTb⟩ := E_
  have hl : lv_has ls 4 [(0, .ref (G.1 + h)), (1, .int a1), (2, .int a2), (3, .int a3)] := hl
  refine lv_aload_n hx hb dX10_gets_0 rfl (lv_at hl 0 rfl) ?_
  refine mw_get (ci := 10) (v := .ref (G.1 + (h + 1))) (C := RX10) (T := TX10) (N := 25) hx hb ht inX10 hown hSt hP kh (by decide) (mk10 kh) rfl 0 (by decide) (ht _ wf_RX10_7) rfl rfl dX10_gets_1 ?_
  refine lv_bipush (v := 30) hx hb dX10_gets_4 (by decide) ?_
  refine lv_bipush (v := 6) hx hb dX10_gets_6 (by decide) ?_
  refine lv_iload_n hx hb dX10_gets_8 rfl (lv_at hl 1 rfl) ?_
  refine lv_imul hx hb dX10_gets_9 ?_
  refine lv_iadd hx hb dX10_gets_10 ?_
  refine lv_iload_n hx hb dX10_gets_11 rfl (lv_at hl 2 rfl) ?_
  refine lv_iadd hx hb dX10_gets_12 ?_
  refine lv_iload_n hx hb dX10_gets_13 rfl (lv_at hl 3 rfl) ?_
  obtain ⟨c_1, hw⟩ := hw
  refine mw_iast hx hb hSt hP hS (ks10_0 kh) (by rw [(ln10_0 kh)]; exact c_1) dX10_gets_14 (fun M_2 H locs eM_2 hP hS => ?_)
  have hw := hw M_2 eM_2
  exact W.vret hx hb hr (mw_end hP hSt hTb hS ⟨rfl, hw⟩) hS.2.2 dX10_gets_15
def wp_X10_isMark (h : Nat) (a1 : Int32) (M : Mem) (Q : Int32 → Mem → Prop) : Prop :=
  kdT h = 10 ∧ (wp_X10_in a1 0 ((ish 1 (M (h + 1) 3)) - 1) M (fun r_3 M_2 => isb r_3 ∧ Q r_3 M_2))
set_option maxHeartbeats 4000000 in
set_option maxRecDepth 100000 in
theorem so_X10_isMark (l : Launch) (G : Gm) (h : Nat) (a1 : Int32) (M : Mem) (Q : Int32 → Mem → Prop) (hw : wp_X10_isMark h a1 M Q) : Ct l G yX10_isMark cX10_isMark 2 (some .boolean) ({ frames := 1, cells := 0, slots := 0, locals := 22 } : Room) [.ref (G.1 + h), .int a1] M (Qi Q) := by
  unfold wp_X10_isMark at hw
  obtain ⟨kh, hw⟩ := hw
  refine ct_of (by decide) (Nat.le_of_ble_eq_true rfl) ?_
  intro p e s m below meth c E_ ls H hl hP hS
  obtain ⟨hx, hb, hml, hown, hts, ht, hr, hlocks, hSt, hTb⟩ := E_
  have hl : lv_has ls 2 [(0, .ref (G.1 + h)), (1, .int a1)] := hl
  refine lv_iload_n hx hb dX10_isMark_0 rfl (lv_at hl 1 rfl) ?_
  refine lv_iconst (v := 0) hx hb dX10_isMark_1 (by decide) ?_
  refine lv_iconst (v := 1) hx hb dX10_isMark_2 (by decide) ?_
  refine lv_aload_n hx hb dX10_isMark_3 rfl (lv_at hl 0 rfl) ?_
  refine mw_get (ci := 10) (v := .ref (G.1 + (h + 1))) (C := RX10) (T := TX10) (N := 25) hx hb ht inX10 hown hSt hP kh (by decide) (mk10 kh) rfl 0 (by decide) (ht _ wf_RX10_7) rfl rfl dX10_isMark_4 ?_
  refine lv_iconst (v := 3) hx hb dX10_isMark_7 (by decide) ?_
  refine mw_ialdc hx hb hSt hP (ks10_0 kh) (ln10_0 kh) 3 (by decide) dX10_isMark_8 ?_
  refine lv_ishl hx hb dX10_isMark_9 ?_
  refine lv_iconst (v := 1) hx hb dX10_isMark_10 (by decide) ?_
  refine lv_isub hx hb dX10_isMark_11 ?_
  refine mw_Sx (As := [.int a1, .int 0, .int ((ish 1 (M (h + 1) 3)) - 1)]) (rest := []) (n := 3) ⟨hx, hb, hml, hown, hts⟩ (so_X10_in l G a1 0 ((ish 1 (M (h + 1) 3)) - 1) M _ hw) wm_RX10_50 wt_yX10_in wn_RX10 wc_yX10_in (by decide) ⟨Nat.le_of_ble_eq_true rfl, Nat.le_of_ble_eq_true rfl⟩ ⟨rfl, rfl⟩ hSt hTb hP hS rfl hl.1 rfl (Nat.le_of_ble_eq_true rfl) dX10_isMark_12 ⟨Nat.le_refl 0, Nat.le_refl 0⟩ (fun rr_ M_2 H locs hq hP hS => ?_)
  obtain ⟨r_3, rfl, hw⟩ := hq
  obtain ⟨c_4, hw⟩ := hw
  exact W.zret hx hb hr c_4.narrow (mw_end hP hSt hTb hS ⟨_, rfl, hw⟩) hS.2.2 dX10_isMark_15
def b_X10_sheep_36 (h : Nat) (Q : Int32 → Mem → Prop) (M : Mem) : Prop :=
  wp_X10_errs h (-1000000001) M (fun r_2 M_1 => Q r_2 M_1)
def wp_X10_sheep (h : Nat) (a1 : Int32) (a2 : Int32) (a3 : Int32) (a4 : Int32) (M : Mem) (Q : Int32 → Mem → Prop) : Prop :=
  kdT h = 10 ∧ (wp_X10_in a1 0 69 M (fun r_4 M_3 => (r_4 = 0 → b_X10_sheep_36 h Q M_3) ∧ (¬ r_4 = 0 → wp_X10_isCell a2 M_3 (fun r_7 M_6 => (r_7 = 0 → b_X10_sheep_36 h Q M_6) ∧ (¬ r_7 = 0 → wp_X10_in a3 0 99 M_6 (fun r_10 M_9 => (r_10 = 0 → b_X10_sheep_36 h Q M_9) ∧ (¬ r_10 = 0 → wp_X10_isMark h a4 M_9 (fun r_13 M_12 => (¬ r_13 = 0 → (¬ (M_12 (h + 1) 2) = 7 → ∀ x_18, x_18 = M_12 (h + 1) 2 → wp_X10_gets h x_18 0 (a1 / 10) M_12 (fun M_19 => wp_X10_gets h x_18 1 (irm a1 10) M_19 (fun M_20 => wp_X10_gets h x_18 2 a2 M_20 (fun M_21 => wp_X10_gets h x_18 3 a3 M_21 (fun M_22 => wp_X10_gets h x_18 4 a4 M_22 (fun M_23 => wp_X10_gets h x_18 5 0 M_23 (fun M_24 => ∀ M_27, M_27 = mu M_24 (h + 1) 2 ((M_24 (h + 1) 2) + 1) → Q x_18 M_27))))))) ∧ ((M_12 (h + 1) 2) = 7 → wp_X10_errs h (-1000000004) M_12 (fun r_29 M_28 => Q r_29 M_28))) ∧ (r_13 = 0 → b_X10_sheep_36 h Q M_12)))))))))
set_option maxHeartbeats 4000000 in
set_option maxRecDepth 100000 in
theorem so_X10_sheep (l : Launch) (G : Gm) (h : Nat) (a1 : Int32) (a2 : Int32) (a3 : Int32) (a4 : Int32) (M : Mem) (Q : Int32 → Mem → Prop) (hw : wp_X10_sheep h a1 a2 a3 a4 M Q) : Ct l G yX10_sheep cX10_sheep 6 (some .int) ({ frames := 2, cells := 0, slots := 0, locals := 43 } : Room) [.ref (G.1 + h), .int a1, .int a2, .int a3, .int a4] M (Qi Q) := by
  unfold wp_X10_sheep at hw
  obtain ⟨kh, hw⟩ := hw
  refine ct_of (by decide) (Nat.le_of_ble_eq_true rfl) ?_
  intro p e s m below meth c E_ ls H hl hP hS
  obtain ⟨hx, hb, hml, hown, hts, ht, hr, hlocks, hSt, hTb⟩ := E_
  have hl : lv_has ls 6 [(0, .ref (G.1 + h)), (1, .int a1), (2, .int a2), (3, .int a3), (4, .int a4)] := hl
  have J_36 : ∀  (M : Mem) (H : Heap) (locs : List Loc) (ls : Array Slot), b_X10_sheep_36 h Q M → va_P G.2.1 clsA (wl G M) H → va_S (inW G) s.heap H locs → lv_has ls 6 [(0, .ref (G.1 + h))] → W p l e ({ frames := 2, cells := 0, slots := 0, locals := 43 } : Room) s m ([.ref (G.1 + h), .int a1, .int a2, .int a3, .int a4] : List Value).toArray below meth c H locs 0 0 (MQ below (Pq G (Qi Q)) ([.ref (G.1 + h), .int a1, .int a2, .int a3, .int a4] : List Value).toArray s 0 0 (inW G)) (F0 m 36 ls []) := by
    intro  M H locs ls  hw hP hS hl
    unfold b_X10_sheep_36 at hw
    refine lv_aload_n hx hb dX10_sheep_36 rfl (lv_at hl 0 rfl) ?_
    refine lv_ldc (v := (-1000000001)) hx hb hown (ht _ wk_RX10_62) dX10_sheep_37 ?_
    refine mw_V (As := [.int (-1000000001)]) (rest := []) (T := TX10) (N := 25) (n := 1) ⟨hx, hb, hml, hown, hts⟩ (so_X10_errs l G h (-1000000001) M _ hw) wm_RX10_63 wi_yX10_errs wv_yX10_errs wn_RX10 wc_yX10_errs (by decide) ⟨Nat.le_of_ble_eq_true rfl, Nat.le_of_ble_eq_true rfl⟩ ⟨rfl, rfl⟩ kh (by decide) (mk10 kh) rfl hSt hTb hP hS rfl hl.1 rfl (Nat.le_of_ble_eq_true rfl) dX10_sheep_39 ⟨Nat.le_refl 0, Nat.le_refl 0⟩ (fun rr_ M_1 H locs hq hP hS => ?_)
    obtain ⟨r_2, rfl, hw⟩ := hq
    exact W.iret hx hb hr (mw_end hP hSt hTb hS ⟨_, rfl, hw⟩) hS.2.2 dX10_sheep_42
  refine lv_iload_n hx hb dX10_sheep_0 rfl (lv_at hl 1 rfl) ?_
  refine lv_iconst (v := 0) hx hb dX10_sheep_1 (by decide) ?_
  refine lv_bipush (v := 69) hx hb dX10_sheep_2 (by decide) ?_
  refine mw_Sx (As := [.int a1, .int 0, .int 69]) (rest := []) (n := 3) ⟨hx, hb, hml, hown, hts⟩ (so_X10_in l G a1 0 69 M _ hw) wm_RX10_50 wt_yX10_in wn_RX10 wc_yX10_in (by decide) ⟨Nat.le_of_ble_eq_true rfl, Nat.le_of_ble_eq_true rfl⟩ ⟨rfl, rfl⟩ hSt hTb hP hS rfl hl.1 rfl (Nat.le_of_ble_eq_true rfl) dX10_sheep_4 ⟨Nat.le_refl 0, Nat.le_refl 0⟩ (fun rr_ M_3 H locs hq hP hS => ?_)
  obtain ⟨r_4, rfl, hw⟩ := hq
  refine lv_if_eq (tgt := 36) hx hb dX10_sheep_7 (by decide) (fun c_5 => ?_) (fun c_5 => ?_)
  · have hw := hw.1 c_5
    exact J_36 M_3 _ _ _ hw hP hS (lv_sub hl [0] rfl)
  · have hw := hw.2 c_5
    refine lv_iload_n hx hb dX10_sheep_10 rfl (lv_at hl 2 rfl) ?_
    refine mw_Sx (As := [.int a2]) (rest := []) (n := 1) ⟨hx, hb, hml, hown, hts⟩ (so_X10_isCell l G a2 M_3 _ hw) wm_RX10_54 wt_yX10_isCell wn_RX10 wc_yX10_isCell (by decide) ⟨Nat.le_of_ble_eq_true rfl, Nat.le_of_ble_eq_true rfl⟩ ⟨rfl, rfl⟩ hSt hTb hP hS rfl hl.1 rfl (Nat.le_of_ble_eq_true rfl) dX10_sheep_11 ⟨Nat.le_refl 0, Nat.le_refl 0⟩ (fun rr_ M_6 H locs hq hP hS => ?_)
    obtain ⟨r_7, rfl, hw⟩ := hq
    refine lv_if_eq (tgt := 36) hx hb dX10_sheep_14 (by decide) (fun c_8 => ?_) (fun c_8 => ?_)
    · have hw := hw.1 c_8
      exact J_36 M_6 _ _ _ hw hP hS (lv_sub hl [0] rfl)
    · have hw := hw.2 c_8
      refine lv_iload_n hx hb dX10_sheep_17 rfl (lv_at hl 3 rfl) ?_
      refine lv_iconst (v := 0) hx hb dX10_sheep_18 (by decide) ?_
      refine lv_bipush (v := 99) hx hb dX10_sheep_19 (by decide) ?_
      refine mw_Sx (As := [.int a3, .int 0, .int 99]) (rest := []) (n := 3) ⟨hx, hb, hml, hown, hts⟩ (so_X10_in l G a3 0 99 M_6 _ hw) wm_RX10_50 wt_yX10_in wn_RX10 wc_yX10_in (by decide) ⟨Nat.le_of_ble_eq_true rfl, Nat.le_of_ble_eq_true rfl⟩ ⟨rfl, rfl⟩ hSt hTb hP hS rfl hl.1 rfl (Nat.le_of_ble_eq_true rfl) dX10_sheep_21 ⟨Nat.le_refl 0, Nat.le_refl 0⟩ (fun rr_ M_9 H locs hq hP hS => ?_)
      obtain ⟨r_10, rfl, hw⟩ := hq
      refine lv_if_eq (tgt := 36) hx hb dX10_sheep_24 (by decide) (fun c_11 => ?_) (fun c_11 => ?_)
      · have hw := hw.1 c_11
        exact J_36 M_9 _ _ _ hw hP hS (lv_sub hl [0] rfl)
      · have hw := hw.2 c_11
        refine lv_aload_n hx hb dX10_sheep_27 rfl (lv_at hl 0 rfl) ?_
        refine lv_iload hx hb dX10_sheep_28 (lv_at hl 4 rfl) ?_
        refine mw_V (As := [.int a4]) (rest := []) (T := TX10) (N := 25) (n := 1) ⟨hx, hb, hml, hown, hts⟩ (so_X10_isMark l G h a4 M_9 _ hw) wm_RX10_84 wi_yX10_isMark wv_yX10_isMark wn_RX10 wc_yX10_isMark (by decide) ⟨Nat.le_of_ble_eq_true rfl, Nat.le_of_ble_eq_true rfl⟩ ⟨rfl, rfl⟩ kh (by decide) (mk10 kh) rfl hSt hTb hP hS rfl hl.1 rfl (Nat.le_of_ble_eq_true rfl) dX10_sheep_30 ⟨Nat.le_refl 0, Nat.le_refl 0⟩ (fun rr_ M_12 H locs hq hP hS => ?_)
        obtain ⟨r_13, rfl, hw⟩ := hq
        refine lv_if_ne (tgt := 43) hx hb dX10_sheep_33 (by decide) (fun c_14 => ?_) (fun c_14 => ?_)
        · have hw := hw.1 c_14
          refine lv_aload_n hx hb dX10_sheep_43 rfl (lv_at hl 0 rfl) ?_
          refine mw_get (ci := 10) (v := .ref (G.1 + (h + 1))) (C := RX10) (T := TX10) (N := 25) hx hb ht inX10 hown hSt hP kh (by decide) (mk10 kh) rfl 0 (by decide) (ht _ wf_RX10_7) rfl rfl dX10_sheep_44 ?_
          refine lv_iconst (v := 2) hx hb dX10_sheep_47 (by decide) ?_
          refine mw_ialdc hx hb hSt hP (ks10_0 kh) (ln10_0 kh) 2 (by decide) dX10_sheep_48 ?_
          refine lv_bipush (v := 7) hx hb dX10_sheep_49 (by decide) ?_
          refine lv_icmp_ne (tgt := 61) hx hb dX10_sheep_51 (by decide) (fun c_16 => ?_) (fun c_16 => ?_)
          · have hw := hw.1 c_16
            refine lv_aload_n hx hb dX10_sheep_61 rfl (lv_at hl 0 rfl) ?_
            refine mw_get (ci := 10) (v := .ref (G.1 + (h + 1))) (C := RX10) (T := TX10) (N := 25) hx hb ht inX10 hown hSt hP kh (by decide) (mk10 kh) rfl 0 (by decide) (ht _ wf_RX10_7) rfl rfl dX10_sheep_62 ?_
            refine lv_iconst (v := 2) hx hb dX10_sheep_65 (by decide) ?_
            refine mw_ialdc hx hb hSt hP (ks10_0 kh) (ln10_0 kh) 2 (by decide) dX10_sheep_66 ?_
            refine lv_topi (fun x_18 ex_18 => ?_)
            have hw := hw x_18 ex_18
            refine lv_istore (lv' := [(5, .int x_18), (0, .ref (G.1 + h)), (1, .int a1), (2, .int a2), (3, .int a3), (4, .int a4)]) hx hb dX10_sheep_67 hl (by decide) rfl (fun ls hl => ?_)
            refine lv_aload_n hx hb dX10_sheep_69 rfl (lv_at hl 1 rfl) ?_
            refine lv_iload hx hb dX10_sheep_70 (lv_at hl 0 rfl) ?_
            refine lv_iconst (v := 0) hx hb dX10_sheep_72 (by decide) ?_
            refine lv_iload_n hx hb dX10_sheep_73 rfl (lv_at hl 2 rfl) ?_
            refine lv_bipush (v := 10) hx hb dX10_sheep_74 (by decide) ?_
            refine lv_idiv hx hb dX10_sheep_76 (by decide) ?_
            refine mw_V (As := [.int x_18, .int 0, .int (a1 / 10)]) (rest := []) (T := TX10) (N := 25) (n := 3) ⟨hx, hb, hml, hown, hts⟩ (so_X10_gets l G h x_18 0 (a1 / 10) M_12 _ hw) wm_RX10_87 wi_yX10_gets wv_yX10_gets wn_RX10 wc_yX10_gets (by decide) ⟨Nat.le_of_ble_eq_true rfl, Nat.le_of_ble_eq_true rfl⟩ ⟨rfl, rfl⟩ kh (by decide) (mk10 kh) rfl hSt hTb hP hS rfl hl.1 rfl (Nat.le_of_ble_eq_true rfl) dX10_sheep_77 ⟨Nat.le_refl 0, Nat.le_refl 0⟩ (fun rr_ M_19 H locs hq hP hS => ?_)
            obtain ⟨rfl, hw⟩ := hq
            refine lv_aload_n hx hb dX10_sheep_80 rfl (lv_at hl 1 rfl) ?_
            refine lv_iload hx hb dX10_sheep_81 (lv_at hl 0 rfl) ?_
            refine lv_iconst (v := 1) hx hb dX10_sheep_83 (by decide) ?_
            refine lv_iload_n hx hb dX10_sheep_84 rfl (lv_at hl 2 rfl) ?_
            refine lv_bipush (v := 10) hx hb dX10_sheep_85 (by decide) ?_
            refine lv_irem hx hb dX10_sheep_87 (by decide) ?_
            refine mw_V (As := [.int x_18, .int 1, .int (irm a1 10)]) (rest := []) (T := TX10) (N := 25) (n := 3) ⟨hx, hb, hml, hown, hts⟩ (so_X10_gets l G h x_18 1 (irm a1 10) M_19 _ hw) wm_RX10_87 wi_yX10_gets wv_yX10_gets wn_RX10 wc_yX10_gets (by decide) ⟨Nat.le_of_ble_eq_true rfl, Nat.le_of_ble_eq_true rfl⟩ ⟨rfl, rfl⟩ kh (by decide) (mk10 kh) rfl hSt hTb hP hS rfl hl.1 rfl (Nat.le_of_ble_eq_true rfl) dX10_sheep_88 ⟨Nat.le_refl 0, Nat.le_refl 0⟩ (fun rr_ M_20 H locs hq hP hS => ?_)
            obtain ⟨rfl, hw⟩ := hq
            refine lv_aload_n hx hb dX10_sheep_91 rfl (lv_at hl 1 rfl) ?_
            refine lv_iload hx hb dX10_sheep_92 (lv_at hl 0 rfl) ?_
            refine lv_iconst (v := 2) hx hb dX10_sheep_94 (by decide) ?_
            refine lv_iload_n hx hb dX10_sheep_95 rfl (lv_at hl 3 rfl) ?_
            refine mw_V (As := [.int x_18, .int 2, .int a2]) (rest := []) (T := TX10) (N := 25) (n := 3) ⟨hx, hb, hml, hown, hts⟩ (so_X10_gets l G h x_18 2 a2 M_20 _ hw) wm_RX10_87 wi_yX10_gets wv_yX10_gets wn_RX10 wc_yX10_gets (by decide) ⟨Nat.le_of_ble_eq_true rfl, Nat.le_of_ble_eq_true rfl⟩ ⟨rfl, rfl⟩ kh (by decide) (mk10 kh) rfl hSt hTb hP hS rfl hl.1 rfl (Nat.le_of_ble_eq_true rfl) dX10_sheep_96 ⟨Nat.le_refl 0, Nat.le_refl 0⟩ (fun rr_ M_21 H locs hq hP hS => ?_)
            obtain ⟨rfl, hw⟩ := hq
            refine lv_aload_n hx hb dX10_sheep_99 rfl (lv_at hl 1 rfl) ?_
            refine lv_iload hx hb dX10_sheep_100 (lv_at hl 0 rfl) ?_
            refine lv_iconst (v := 3) hx hb dX10_sheep_102 (by decide) ?_
            refine lv_iload_n hx hb dX10_sheep_103 rfl (lv_at hl 4 rfl) ?_
            refine mw_V (As := [.int x_18, .int 3, .int a3]) (rest := []) (T := TX10) (N := 25) (n := 3) ⟨hx, hb, hml, hown, hts⟩ (so_X10_gets l G h x_18 3 a3 M_21 _ hw) wm_RX10_87 wi_yX10_gets wv_yX10_gets wn_RX10 wc_yX10_gets (by decide) ⟨Nat.le_of_ble_eq_true rfl, Nat.le_of_ble_eq_true rfl⟩ ⟨rfl, rfl⟩ kh (by decide) (mk10 kh) rfl hSt hTb hP hS rfl hl.1 rfl (Nat.le_of_ble_eq_true rfl) dX10_sheep_104 ⟨Nat.le_refl 0, Nat.le_refl 0⟩ (fun rr_ M_22 H locs hq hP hS => ?_)
            obtain ⟨rfl, hw⟩ := hq
            refine lv_aload_n hx hb dX10_sheep_107 rfl (lv_at hl 1 rfl) ?_
            refine lv_iload hx hb dX10_sheep_108 (lv_at hl 0 rfl) ?_
            refine lv_iconst (v := 4) hx hb dX10_sheep_110 (by decide) ?_
            refine lv_iload hx hb dX10_sheep_111 (lv_at hl 5 rfl) ?_
            refine mw_V (As := [.int x_18, .int 4, .int a4]) (rest := []) (T := TX10) (N := 25) (n := 3) ⟨hx, hb, hml, hown, hts⟩ (so_X10_gets l G h x_18 4 a4 M_22 _ hw) wm_RX10_87 wi_yX10_gets wv_yX10_gets wn_RX10 wc_yX10_gets (by decide) ⟨Nat.le_of_ble_eq_true rfl, Nat.le_of_ble_eq_true rfl⟩ ⟨rfl, rfl⟩ kh (by decide) (mk10 kh) rfl hSt hTb hP hS rfl hl.1 rfl (Nat.le_of_ble_eq_true rfl) dX10_sheep_113 ⟨Nat.le_refl 0, Nat.le_refl 0⟩ (fun rr_ M_23 H locs hq hP hS => ?_)
            obtain ⟨rfl, hw⟩ := hq
            refine lv_aload_n hx hb dX10_sheep_116 rfl (lv_at hl 1 rfl) ?_
            refine lv_iload hx hb dX10_sheep_117 (lv_at hl 0 rfl) ?_
            refine lv_iconst (v := 5) hx hb dX10_sheep_119 (by decide) ?_
            refine lv_iconst (v := 0) hx hb dX10_sheep_120 (by decide) ?_
            refine mw_V (As := [.int x_18, .int 5, .int 0]) (rest := []) (T := TX10) (N := 25) (n := 3) ⟨hx, hb, hml, hown, hts⟩ (so_X10_gets l G h x_18 5 0 M_23 _ hw) wm_RX10_87 wi_yX10_gets wv_yX10_gets wn_RX10 wc_yX10_gets (by decide) ⟨Nat.le_of_ble_eq_true rfl, Nat.le_of_ble_eq_true rfl⟩ ⟨rfl, rfl⟩ kh (by decide) (mk10 kh) rfl hSt hTb hP hS rfl hl.1 rfl (Nat.le_of_ble_eq_true rfl) dX10_sheep_121 ⟨Nat.le_refl 0, Nat.le_refl 0⟩ (fun rr_ M_24 H locs hq hP hS => ?_)
            obtain ⟨rfl, hw⟩ := hq
            refine lv_aload_n hx hb dX10_sheep_124 rfl (lv_at hl 1 rfl) ?_
            refine mw_get (ci := 10) (v := .ref (G.1 + (h + 1))) (C := RX10) (T := TX10) (N := 25) hx hb ht inX10 hown hSt hP kh (by decide) (mk10 kh) rfl 0 (by decide) (ht _ wf_RX10_7) rfl rfl dX10_sheep_125 ?_
            refine lv_iconst (v := 2) hx hb dX10_sheep_128 (by decide) ?_
            refine lv_dup2_11 hx hb dX10_sheep_129 rfl rfl ?_
            refine mw_ialdc hx hb hSt hP (ks10_0 kh) (ln10_0 kh) 2 (by decide) dX10_sheep_130 ?_
            refine lv_iconst (v := 1) hx hb dX10_sheep_131 (by decide) ?_
            refine lv_iadd hx hb dX10_sheep_132 ?_
            refine mw_iastc hx hb hSt hP hS (ks10_0 kh) (ln10_0 kh) 2 (by decide) dX10_sheep_133 (fun M_27 H locs eM_27 hP hS => ?_)
            have hw := hw M_27 eM_27
            refine lv_iload hx hb dX10_sheep_134 (lv_at hl 0 rfl) ?_
            exact W.iret hx hb hr (mw_end hP hSt hTb hS ⟨_, rfl, hw⟩) hS.2.2 dX10_sheep_136
          · have hw := hw.2 c_16
            refine lv_aload_n hx hb dX10_sheep_54 rfl (lv_at hl 0 rfl) ?_
            refine lv_ldc (v := (-1000000004)) hx hb hown (ht _ wk_RX10_77) dX10_sheep_55 ?_
            refine mw_V (As := [.int (-1000000004)]) (rest := []) (T := TX10) (N := 25) (n := 1) ⟨hx, hb, hml, hown, hts⟩ (so_X10_errs l G h (-1000000004) M_12 _ hw) wm_RX10_63 wi_yX10_errs wv_yX10_errs wn_RX10 wc_yX10_errs (by decide) ⟨Nat.le_of_ble_eq_true rfl, Nat.le_of_ble_eq_true rfl⟩ ⟨rfl, rfl⟩ kh (by decide) (mk10 kh) rfl hSt hTb hP hS rfl hl.1 rfl (Nat.le_of_ble_eq_true rfl) dX10_sheep_57 ⟨Nat.le_refl 0, Nat.le_refl 0⟩ (fun rr_ M_28 H locs hq hP hS => ?_)
            obtain ⟨r_29, rfl, hw⟩ := hq
            exact W.iret hx hb hr (mw_end hP hSt hTb hS ⟨_, rfl, hw⟩) hS.2.2 dX10_sheep_60
        · have hw := hw.2 c_14
          exact J_36 M_12 _ _ _ hw hP hS (lv_sub hl [0] rfl)
def wp_X10_cold (h : Nat) (a1 : Int32) (M : Mem) (Q : Int32 → Mem → Prop) : Prop :=
  kdT h = 10 ∧ (wp_X10_its h a1 0 M (fun r_2 M_1 => (r_2 = 1 → (¬ (irm (M_1 (h + 1) 0) 2) = 0 → Q 0 M_1) ∧ ((irm (M_1 (h + 1) 0) 2) = 0 → Q 1 M_1)) ∧ (r_2 = 2 → wp_X10_its h a1 1 M_1 (fun r_8 M_7 => Q (1 + (irm r_8 2)) M_7)) ∧ (r_2 = 3 → Q 3 M_1) ∧ (r_2 = 4 → (¬ (irm (M_1 (h + 1) 0) 2) = 0 → Q 0 M_1) ∧ ((irm (M_1 (h + 1) 0) 2) = 0 → Q 1 M_1)) ∧ (r_2 = 5 → wp_X10_its h a1 1 M_1 (fun r_15 M_14 => Q (1 + (irm r_15 2)) M_14)) ∧ (r_2 = 6 → Q 3 M_1) ∧ (¬ r_2 = 1 → ¬ r_2 = 2 → ¬ r_2 = 3 → ¬ r_2 = 4 → ¬ r_2 = 5 → ¬ r_2 = 6 → Q 1 M_1)))
set_option maxHeartbeats 4000000 in
set_option maxRecDepth 100000 in
theorem so_X10_cold (l : Launch) (G : Gm) (h : Nat) (a1 : Int32) (M : Mem) (Q : Int32 → Mem → Prop) (hw : wp_X10_cold h a1 M Q) : Ct l G yX10_cold cX10_cold 2 (some .int) ({ frames := 1, cells := 0, slots := 0, locals := 22 } : Room) [.ref (G.1 + h), .int a1] M (Qi Q) := by
  unfold wp_X10_cold at hw
  obtain ⟨kh, hw⟩ := hw
  refine ct_of (by decide) (Nat.le_of_ble_eq_true rfl) ?_
  intro p e s m below meth c E_ ls H hl hP hS
  obtain ⟨hx, hb, hml, hown, hts, ht, hr, hlocks, hSt, hTb⟩ := E_
  have hl : lv_has ls 2 [(0, .ref (G.1 + h)), (1, .int a1)] := hl
  refine lv_aload_n hx hb dX10_cold_0 rfl (lv_at hl 0 rfl) ?_
  refine lv_iload_n hx hb dX10_cold_1 rfl (lv_at hl 1 rfl) ?_
  refine lv_iconst (v := 0) hx hb dX10_cold_2 (by decide) ?_
  refine mw_V (As := [.int a1, .int 0]) (rest := []) (T := TX10) (N := 25) (n := 2) ⟨hx, hb, hml, hown, hts⟩ (so_X10_its l G h a1 0 M _ hw) wm_RX10_67 wi_yX10_its wv_yX10_its wn_RX10 wc_yX10_its (by decide) ⟨Nat.le_of_ble_eq_true rfl, Nat.le_of_ble_eq_true rfl⟩ ⟨rfl, rfl⟩ kh (by decide) (mk10 kh) rfl hSt hTb hP hS rfl hl.1 rfl (Nat.le_of_ble_eq_true rfl) dX10_cold_3 ⟨Nat.le_refl 0, Nat.le_refl 0⟩ (fun rr_ M_1 H locs hq hP hS => ?_)
  obtain ⟨r_2, rfl, hw⟩ := hq
  by_cases c_3 : r_2 = 1
  · have hw := hw.1 c_3
    refine mw_tcase (tgt := 44) (off := 38) hx hb dX10_cold_6 c_3 (by decide) ?_
    refine lv_aload_n hx hb dX10_cold_44 rfl (lv_at hl 0 rfl) ?_
    refine mw_get (ci := 10) (v := .ref (G.1 + (h + 1))) (C := RX10) (T := TX10) (N := 25) hx hb ht inX10 hown hSt hP kh (by decide) (mk10 kh) rfl 0 (by decide) (ht _ wf_RX10_7) rfl rfl dX10_cold_45 ?_
    refine lv_iconst (v := 0) hx hb dX10_cold_48 (by decide) ?_
    refine mw_ialdc hx hb hSt hP (ks10_0 kh) (ln10_0 kh) 0 (by decide) dX10_cold_49 ?_
    refine lv_iconst (v := 2) hx hb dX10_cold_50 (by decide) ?_
    refine lv_irem hx hb dX10_cold_51 (by decide) ?_
    refine lv_if_ne (tgt := 59) hx hb dX10_cold_52 (by decide) (fun c_5 => ?_) (fun c_5 => ?_)
    · have hw := hw.1 c_5
      refine lv_iconst (v := 0) hx hb dX10_cold_59 (by decide) ?_
      exact W.iret hx hb hr (mw_end hP hSt hTb hS ⟨_, rfl, hw⟩) hS.2.2 dX10_cold_60
    · have hw := hw.2 c_5
      refine lv_iconst (v := 1) hx hb dX10_cold_55 (by decide) ?_
      refine lv_goto (tgt := 60) hx hb dX10_cold_56 (by decide) ?_
      exact W.iret hx hb hr (mw_end hP hSt hTb hS ⟨_, rfl, hw⟩) hS.2.2 dX10_cold_60
  by_cases c_6 : r_2 = 2
  · have hw := hw.2.1 c_6
    refine mw_tcase (tgt := 61) (off := 55) hx hb dX10_cold_6 c_6 (by decide) ?_
    refine lv_iconst (v := 1) hx hb dX10_cold_61 (by decide) ?_
    refine lv_aload_n hx hb dX10_cold_62 rfl (lv_at hl 0 rfl) ?_
    refine lv_iload_n hx hb dX10_cold_63 rfl (lv_at hl 1 rfl) ?_
    refine lv_iconst (v := 1) hx hb dX10_cold_64 (by decide) ?_
    refine mw_V (As := [.int a1, .int 1]) (rest := [.int 1]) (T := TX10) (N := 25) (n := 2) ⟨hx, hb, hml, hown, hts⟩ (so_X10_its l G h a1 1 M_1 _ hw) wm_RX10_67 wi_yX10_its wv_yX10_its wn_RX10 wc_yX10_its (by decide) ⟨Nat.le_of_ble_eq_true rfl, Nat.le_of_ble_eq_true rfl⟩ ⟨rfl, rfl⟩ kh (by decide) (mk10 kh) rfl hSt hTb hP hS rfl hl.1 rfl (Nat.le_of_ble_eq_true rfl) dX10_cold_65 ⟨Nat.le_refl 0, Nat.le_refl 0⟩ (fun rr_ M_7 H locs hq hP hS => ?_)
    obtain ⟨r_8, rfl, hw⟩ := hq
    refine lv_iconst (v := 2) hx hb dX10_cold_68 (by decide) ?_
    refine lv_irem hx hb dX10_cold_69 (by decide) ?_
    refine lv_iadd hx hb dX10_cold_70 ?_
    exact W.iret hx hb hr (mw_end hP hSt hTb hS ⟨_, rfl, hw⟩) hS.2.2 dX10_cold_71
  by_cases c_9 : r_2 = 3
  · have hw := hw.2.2.1 c_9
    refine mw_tcase (tgt := 72) (off := 66) hx hb dX10_cold_6 c_9 (by decide) ?_
    refine lv_iconst (v := 3) hx hb dX10_cold_72 (by decide) ?_
    exact W.iret hx hb hr (mw_end hP hSt hTb hS ⟨_, rfl, hw⟩) hS.2.2 dX10_cold_73
  by_cases c_10 : r_2 = 4
  · have hw := hw.2.2.2.1 c_10
    refine mw_tcase (tgt := 44) (off := 38) hx hb dX10_cold_6 c_10 (by decide) ?_
    refine lv_aload_n hx hb dX10_cold_44 rfl (lv_at hl 0 rfl) ?_
    refine mw_get (ci := 10) (v := .ref (G.1 + (h + 1))) (C := RX10) (T := TX10) (N := 25) hx hb ht inX10 hown hSt hP kh (by decide) (mk10 kh) rfl 0 (by decide) (ht _ wf_RX10_7) rfl rfl dX10_cold_45 ?_
    refine lv_iconst (v := 0) hx hb dX10_cold_48 (by decide) ?_
    refine mw_ialdc hx hb hSt hP (ks10_0 kh) (ln10_0 kh) 0 (by decide) dX10_cold_49 ?_
    refine lv_iconst (v := 2) hx hb dX10_cold_50 (by decide) ?_
    refine lv_irem hx hb dX10_cold_51 (by decide) ?_
    refine lv_if_ne (tgt := 59) hx hb dX10_cold_52 (by decide) (fun c_12 => ?_) (fun c_12 => ?_)
    · have hw := hw.1 c_12
      refine lv_iconst (v := 0) hx hb dX10_cold_59 (by decide) ?_
      exact W.iret hx hb hr (mw_end hP hSt hTb hS ⟨_, rfl, hw⟩) hS.2.2 dX10_cold_60
    · have hw := hw.2 c_12
      refine lv_iconst (v := 1) hx hb dX10_cold_55 (by decide) ?_
      refine lv_goto (tgt := 60) hx hb dX10_cold_56 (by decide) ?_
      exact W.iret hx hb hr (mw_end hP hSt hTb hS ⟨_, rfl, hw⟩) hS.2.2 dX10_cold_60
  by_cases c_13 : r_2 = 5
  · have hw := hw.2.2.2.2.1 c_13
    refine mw_tcase (tgt := 61) (off := 55) hx hb dX10_cold_6 c_13 (by decide) ?_
    refine lv_iconst (v := 1) hx hb dX10_cold_61 (by decide) ?_
    refine lv_aload_n hx hb dX10_cold_62 rfl (lv_at hl 0 rfl) ?_
    refine lv_iload_n hx hb dX10_cold_63 rfl (lv_at hl 1 rfl) ?_
    refine lv_iconst (v := 1) hx hb dX10_cold_64 (by decide) ?_
    refine mw_V (As := [.int a1, .int 1]) (rest := [.int 1]) (T := TX10) (N := 25) (n := 2) ⟨hx, hb, hml, hown, hts⟩ (so_X10_its l G h a1 1 M_1 _ hw) wm_RX10_67 wi_yX10_its wv_yX10_its wn_RX10 wc_yX10_its (by decide) ⟨Nat.le_of_ble_eq_true rfl, Nat.le_of_ble_eq_true rfl⟩ ⟨rfl, rfl⟩ kh (by decide) (mk10 kh) rfl hSt hTb hP hS rfl hl.1 rfl (Nat.le_of_ble_eq_true rfl) dX10_cold_65 ⟨Nat.le_refl 0, Nat.le_refl 0⟩ (fun rr_ M_14 H locs hq hP hS => ?_)
    obtain ⟨r_15, rfl, hw⟩ := hq
    refine lv_iconst (v := 2) hx hb dX10_cold_68 (by decide) ?_
    refine lv_irem hx hb dX10_cold_69 (by decide) ?_
    refine lv_iadd hx hb dX10_cold_70 ?_
    exact W.iret hx hb hr (mw_end hP hSt hTb hS ⟨_, rfl, hw⟩) hS.2.2 dX10_cold_71
  by_cases c_16 : r_2 = 6
  · have hw := hw.2.2.2.2.2.1 c_16
    refine mw_tcase (tgt := 72) (off := 66) hx hb dX10_cold_6 c_16 (by decide) ?_
    refine lv_iconst (v := 3) hx hb dX10_cold_72 (by decide) ?_
    exact W.iret hx hb hr (mw_end hP hSt hTb hS ⟨_, rfl, hw⟩) hS.2.2 dX10_cold_73
  have hw := hw.2.2.2.2.2.2 c_3 c_6 c_9 c_10 c_13 c_16
  refine mw_tdef (keys := [1, 2, 3, 4, 5, 6]) (tgt := 74) hx hb dX10_cold_6 (List.forall_mem_cons.mpr ⟨c_3, (List.forall_mem_cons.mpr ⟨c_6, (List.forall_mem_cons.mpr ⟨c_9, (List.forall_mem_cons.mpr ⟨c_10, (List.forall_mem_cons.mpr ⟨c_13, (List.forall_mem_cons.mpr ⟨c_16, (fun _ h_ => absurd h_ List.not_mem_nil)⟩)⟩)⟩)⟩)⟩)⟩) (by decide) (by decide) ?_
  refine lv_iconst (v := 1) hx hb dX10_cold_74 (by decide) ?_
  exact W.iret hx hb hr (mw_end hP hSt hTb hS ⟨_, rfl, hw⟩) hS.2.2 dX10_cold_75
def B_X10_bits_4 (Q : Int32 → Mem → Prop) (K4 : Int32 → Int32 → Mem → Prop) (v1 : Int32) (v2 : Int32) (M : Mem) : Prop :=
  (v2 = 0 → Q v1 M) ∧ (¬ v2 = 0 → ∀ x_2 : Int32, x_2 = v1 + 1 → ∀ x_3, x_3 = v2 &&& (v2 - 1) → K4 x_2 x_3 M)
def l_X10_bits_4 (Q : Int32 → Mem → Prop) : Nat → Int32 → Int32 → Mem → Prop
  | 0 => fun _ _ _ => False
  | n + 1 => B_X10_bits_4 Q (l_X10_bits_4 Q n)
def wp_X10_bits (a0 : Int32) (M : Mem) (Q : Int32 → Mem → Prop) : Prop :=
  ∃ n, l_X10_bits_4 Q n 0 a0 M
set_option maxHeartbeats 4000000 in
set_option maxRecDepth 100000 in
theorem so_X10_bits (l : Launch) (G : Gm) (a0 : Int32) (M : Mem) (Q : Int32 → Mem → Prop) (hw : wp_X10_bits a0 M Q) : Ct l G yX10_bits cX10_bits 3 (some .int) ({ frames := 0, cells := 0, slots := 0, locals := 0 } : Room) [.int a0] M (Qi Q) := by
  unfold wp_X10_bits at hw
  refine ct_of (by decide) (Nat.le_of_ble_eq_true rfl) ?_
  intro p e s m below meth c E_ ls H hl hP hS
  obtain ⟨hx, hb, hml, hown, hts, ht, hr, hlocks, hSt, hTb⟩ := E_
  have hl : lv_has ls 3 [(0, .int a0)] := hl
  have L_4 : ∀ (n4 : Nat) (v1 : Int32) (v2 : Int32) (M : Mem) (H : Heap) (locs : List Loc) (ls : Array Slot), l_X10_bits_4 Q n4 v1 v2 M → va_P G.2.1 clsA (wl G M) H → va_S (inW G) s.heap H locs → lv_has ls 3 [(1, .int v1), (2, .int v2)] → W p l e ({ frames := 0, cells := 0, slots := 0, locals := 0 } : Room) s m ([.int a0] : List Value).toArray below meth c H locs 0 0 (MQ below (Pq G (Qi Q)) ([.int a0] : List Value).toArray s 0 0 (inW G)) (F0 m 4 ls []) := by
    intro   n4
    induction n4 with
    | zero => intro v1 v2 M H locs ls  hw hP hS hl; exact False.elim hw
    | succ n4 ih4 =>
      intro v1 v2 M H locs ls  hw hP hS hl
      have hw : B_X10_bits_4 Q (l_X10_bits_4 Q n4) v1 v2 M := hw
      unfold B_X10_bits_4 at hw
      refine lv_iload_n hx hb dX10_bits_4 rfl (lv_at hl 1 rfl) ?_
      refine lv_if_eq (tgt := 20) hx hb dX10_bits_5 (by decide) (fun c_1 => ?_) (fun c_1 => ?_)
      · have hw := hw.1 c_1
        refine lv_iload_n hx hb dX10_bits_20 rfl (lv_at hl 0 rfl) ?_
        exact W.iret hx hb hr (mw_end hP hSt hTb hS ⟨_, rfl, hw⟩) hS.2.2 dX10_bits_21
      · have hw := hw.2 c_1
        obtain ⟨x_2, ex_2⟩ : ∃ z : Int32, z = v1 + 1 := ⟨_, rfl⟩
        have hw := hw x_2 ex_2
        refine lv_iinc (v := x_2) (lv' := [(1, .int x_2), (2, .int v2)]) hx hb dX10_bits_8 hl (k := 0) rfl (by rw [ex_2]; rfl) (by decide) rfl (fun ls hl => ?_)
        refine lv_iload_n hx hb dX10_bits_11 rfl (lv_at hl 1 rfl) ?_
        refine lv_iload_n hx hb dX10_bits_12 rfl (lv_at hl 1 rfl) ?_
        refine lv_iconst (v := 1) hx hb dX10_bits_13 (by decide) ?_
        refine lv_isub hx hb dX10_bits_14 ?_
        refine lv_iand hx hb dX10_bits_15 ?_
        refine lv_topi (fun x_3 ex_3 => ?_)
        have hw := hw x_3 ex_3
        refine lv_istore_n (lv' := [(2, .int x_3), (1, .int x_2)]) hx hb dX10_bits_16 rfl hl (by decide) rfl (fun ls hl => ?_)
        refine lv_goto (tgt := 4) hx hb dX10_bits_17 (by decide) ?_
        exact ih4 x_2 x_3 M _ _ _ hw hP hS (lv_sub hl [1, 0] rfl)
  refine lv_iconst (v := 0) hx hb dX10_bits_0 (by decide) ?_
  refine lv_istore_n (lv' := [(1, .int 0), (0, .int a0)]) hx hb dX10_bits_1 rfl hl (by decide) rfl (fun ls hl => ?_)
  refine lv_iload_n hx hb dX10_bits_2 rfl (lv_at hl 1 rfl) ?_
  refine lv_istore_n (lv' := [(2, .int a0), (1, .int 0), (0, .int a0)]) hx hb dX10_bits_3 rfl hl (by decide) rfl (fun ls hl => ?_)
  obtain ⟨n_, hw⟩ := hw
  exact L_4 n_ 0 a0 M _ _ _ hw hP hS (lv_sub hl [1, 0] rfl)
def wp_X10_heard (h : Nat) (a1 : Int32) (M : Mem) (Q : Int32 → Mem → Prop) : Prop :=
  kdT h = 10 ∧ (wp_X10_its h a1 1 M (fun r_2 M_1 => wp_X10_its h a1 0 M_1 (fun r_4 M_3 => (r_4 = 1 → Q (5 + r_2) M_3) ∧ (r_4 = 2 → Q 10 M_3) ∧ (r_4 = 3 → Q (5 - (r_2 / 2)) M_3) ∧ (r_4 = 4 → Q (55 + r_2) M_3) ∧ (r_4 = 5 → (¬ (irm (M_3 (h + 1) 0) 2) = 1 → Q 10 M_3) ∧ ((irm (M_3 (h + 1) 0) 2) = 1 → Q 0 M_3)) ∧ (r_4 = 6 → wp_X10_its h a1 4 M_3 (fun r_14 M_13 => wp_X10_bits r_14 M_13 (fun r_16 M_15 => (¬ r_16 = 1 → Q (5 - (r_2 / 2)) M_15) ∧ (r_16 = 1 → Q 0 M_15)))) ∧ (¬ r_4 = 1 → ¬ r_4 = 2 → ¬ r_4 = 3 → ¬ r_4 = 4 → ¬ r_4 = 5 → ¬ r_4 = 6 → Q 5 M_3))))
set_option maxHeartbeats 4000000 in
set_option maxRecDepth 100000 in
theorem so_X10_heard (l : Launch) (G : Gm) (h : Nat) (a1 : Int32) (M : Mem) (Q : Int32 → Mem → Prop) (hw : wp_X10_heard h a1 M Q) : Ct l G yX10_heard cX10_heard 3 (some .int) ({ frames := 1, cells := 0, slots := 0, locals := 22 } : Room) [.ref (G.1 + h), .int a1] M (Qi Q) := by
  unfold wp_X10_heard at hw
  obtain ⟨kh, hw⟩ := hw
  refine ct_of (by decide) (Nat.le_of_ble_eq_true rfl) ?_
  intro p e s m below meth c E_ ls H hl hP hS
  obtain ⟨hx, hb, hml, hown, hts, ht, hr, hlocks, hSt, hTb⟩ := E_
  have hl : lv_has ls 3 [(0, .ref (G.1 + h)), (1, .int a1)] := hl
  refine lv_aload_n hx hb dX10_heard_0 rfl (lv_at hl 0 rfl) ?_
  refine lv_iload_n hx hb dX10_heard_1 rfl (lv_at hl 1 rfl) ?_
  refine lv_iconst (v := 1) hx hb dX10_heard_2 (by decide) ?_
  refine mw_V (As := [.int a1, .int 1]) (rest := []) (T := TX10) (N := 25) (n := 2) ⟨hx, hb, hml, hown, hts⟩ (so_X10_its l G h a1 1 M _ hw) wm_RX10_67 wi_yX10_its wv_yX10_its wn_RX10 wc_yX10_its (by decide) ⟨Nat.le_of_ble_eq_true rfl, Nat.le_of_ble_eq_true rfl⟩ ⟨rfl, rfl⟩ kh (by decide) (mk10 kh) rfl hSt hTb hP hS rfl hl.1 rfl (Nat.le_of_ble_eq_true rfl) dX10_heard_3 ⟨Nat.le_refl 0, Nat.le_refl 0⟩ (fun rr_ M_1 H locs hq hP hS => ?_)
  obtain ⟨r_2, rfl, hw⟩ := hq
  refine lv_istore_n (lv' := [(2, .int r_2), (0, .ref (G.1 + h)), (1, .int a1)]) hx hb dX10_heard_6 rfl hl (by decide) rfl (fun ls hl => ?_)
  refine lv_aload_n hx hb dX10_heard_7 rfl (lv_at hl 1 rfl) ?_
  refine lv_iload_n hx hb dX10_heard_8 rfl (lv_at hl 2 rfl) ?_
  refine lv_iconst (v := 0) hx hb dX10_heard_9 (by decide) ?_
  refine mw_V (As := [.int a1, .int 0]) (rest := []) (T := TX10) (N := 25) (n := 2) ⟨hx, hb, hml, hown, hts⟩ (so_X10_its l G h a1 0 M_1 _ hw) wm_RX10_67 wi_yX10_its wv_yX10_its wn_RX10 wc_yX10_its (by decide) ⟨Nat.le_of_ble_eq_true rfl, Nat.le_of_ble_eq_true rfl⟩ ⟨rfl, rfl⟩ kh (by decide) (mk10 kh) rfl hSt hTb hP hS rfl hl.1 rfl (Nat.le_of_ble_eq_true rfl) dX10_heard_10 ⟨Nat.le_refl 0, Nat.le_refl 0⟩ (fun rr_ M_3 H locs hq hP hS => ?_)
  obtain ⟨r_4, rfl, hw⟩ := hq
  by_cases c_5 : r_4 = 1
  · have hw := hw.1 c_5
    refine mw_tcase (tgt := 52) (off := 39) hx hb dX10_heard_13 c_5 (by decide) ?_
    refine lv_iconst (v := 5) hx hb dX10_heard_52 (by decide) ?_
    refine lv_iload_n hx hb dX10_heard_53 rfl (lv_at hl 0 rfl) ?_
    refine lv_iadd hx hb dX10_heard_54 ?_
    exact W.iret hx hb hr (mw_end hP hSt hTb hS ⟨_, rfl, hw⟩) hS.2.2 dX10_heard_55
  by_cases c_6 : r_4 = 2
  · have hw := hw.2.1 c_6
    refine mw_tcase (tgt := 61) (off := 48) hx hb dX10_heard_13 c_6 (by decide) ?_
    refine lv_bipush (v := 10) hx hb dX10_heard_61 (by decide) ?_
    exact W.iret hx hb hr (mw_end hP hSt hTb hS ⟨_, rfl, hw⟩) hS.2.2 dX10_heard_63
  by_cases c_7 : r_4 = 3
  · have hw := hw.2.2.1 c_7
    refine mw_tcase (tgt := 83) (off := 70) hx hb dX10_heard_13 c_7 (by decide) ?_
    refine lv_iconst (v := 5) hx hb dX10_heard_83 (by decide) ?_
    refine lv_iload_n hx hb dX10_heard_84 rfl (lv_at hl 0 rfl) ?_
    refine lv_iconst (v := 2) hx hb dX10_heard_85 (by decide) ?_
    refine lv_idiv hx hb dX10_heard_86 (by decide) ?_
    refine lv_isub hx hb dX10_heard_87 ?_
    exact W.iret hx hb hr (mw_end hP hSt hTb hS ⟨_, rfl, hw⟩) hS.2.2 dX10_heard_88
  by_cases c_8 : r_4 = 4
  · have hw := hw.2.2.2.1 c_8
    refine mw_tcase (tgt := 56) (off := 43) hx hb dX10_heard_13 c_8 (by decide) ?_
    refine lv_bipush (v := 55) hx hb dX10_heard_56 (by decide) ?_
    refine lv_iload_n hx hb dX10_heard_58 rfl (lv_at hl 0 rfl) ?_
    refine lv_iadd hx hb dX10_heard_59 ?_
    exact W.iret hx hb hr (mw_end hP hSt hTb hS ⟨_, rfl, hw⟩) hS.2.2 dX10_heard_60
  by_cases c_9 : r_4 = 5
  · have hw := hw.2.2.2.2.1 c_9
    refine mw_tcase (tgt := 64) (off := 51) hx hb dX10_heard_13 c_9 (by decide) ?_
    refine lv_aload_n hx hb dX10_heard_64 rfl (lv_at hl 1 rfl) ?_
    refine mw_get (ci := 10) (v := .ref (G.1 + (h + 1))) (C := RX10) (T := TX10) (N := 25) hx hb ht inX10 hown hSt hP kh (by decide) (mk10 kh) rfl 0 (by decide) (ht _ wf_RX10_7) rfl rfl dX10_heard_65 ?_
    refine lv_iconst (v := 0) hx hb dX10_heard_68 (by decide) ?_
    refine mw_ialdc hx hb hSt hP (ks10_0 kh) (ln10_0 kh) 0 (by decide) dX10_heard_69 ?_
    refine lv_iconst (v := 2) hx hb dX10_heard_70 (by decide) ?_
    refine lv_irem hx hb dX10_heard_71 (by decide) ?_
    refine lv_iconst (v := 1) hx hb dX10_heard_72 (by decide) ?_
    refine lv_icmp_ne (tgt := 80) hx hb dX10_heard_73 (by decide) (fun c_11 => ?_) (fun c_11 => ?_)
    · have hw := hw.1 c_11
      refine lv_bipush (v := 10) hx hb dX10_heard_80 (by decide) ?_
      exact W.iret hx hb hr (mw_end hP hSt hTb hS ⟨_, rfl, hw⟩) hS.2.2 dX10_heard_82
    · have hw := hw.2 c_11
      refine lv_iconst (v := 0) hx hb dX10_heard_76 (by decide) ?_
      refine lv_goto (tgt := 82) hx hb dX10_heard_77 (by decide) ?_
      exact W.iret hx hb hr (mw_end hP hSt hTb hS ⟨_, rfl, hw⟩) hS.2.2 dX10_heard_82
  by_cases c_12 : r_4 = 6
  · have hw := hw.2.2.2.2.2.1 c_12
    refine mw_tcase (tgt := 89) (off := 76) hx hb dX10_heard_13 c_12 (by decide) ?_
    refine lv_aload_n hx hb dX10_heard_89 rfl (lv_at hl 1 rfl) ?_
    refine lv_iload_n hx hb dX10_heard_90 rfl (lv_at hl 2 rfl) ?_
    refine lv_iconst (v := 4) hx hb dX10_heard_91 (by decide) ?_
    refine mw_V (As := [.int a1, .int 4]) (rest := []) (T := TX10) (N := 25) (n := 2) ⟨hx, hb, hml, hown, hts⟩ (so_X10_its l G h a1 4 M_3 _ hw) wm_RX10_67 wi_yX10_its wv_yX10_its wn_RX10 wc_yX10_its (by decide) ⟨Nat.le_of_ble_eq_true rfl, Nat.le_of_ble_eq_true rfl⟩ ⟨rfl, rfl⟩ kh (by decide) (mk10 kh) rfl hSt hTb hP hS rfl hl.1 rfl (Nat.le_of_ble_eq_true rfl) dX10_heard_92 ⟨Nat.le_refl 0, Nat.le_refl 0⟩ (fun rr_ M_13 H locs hq hP hS => ?_)
    obtain ⟨r_14, rfl, hw⟩ := hq
    refine mw_Sx (As := [.int r_14]) (rest := []) (n := 1) ⟨hx, hb, hml, hown, hts⟩ (so_X10_bits l G r_14 M_13 _ hw) wm_RX10_173 wt_yX10_bits wn_RX10 wc_yX10_bits (by decide) ⟨Nat.le_of_ble_eq_true rfl, Nat.le_of_ble_eq_true rfl⟩ ⟨rfl, rfl⟩ hSt hTb hP hS rfl hl.1 rfl (Nat.le_of_ble_eq_true rfl) dX10_heard_95 ⟨Nat.le_refl 0, Nat.le_refl 0⟩ (fun rr_ M_15 H locs hq hP hS => ?_)
    obtain ⟨r_16, rfl, hw⟩ := hq
    refine lv_iconst (v := 1) hx hb dX10_heard_98 (by decide) ?_
    refine lv_icmp_ne (tgt := 106) hx hb dX10_heard_99 (by decide) (fun c_17 => ?_) (fun c_17 => ?_)
    · have hw := hw.1 c_17
      refine lv_iconst (v := 5) hx hb dX10_heard_106 (by decide) ?_
      refine lv_iload_n hx hb dX10_heard_107 rfl (lv_at hl 0 rfl) ?_
      refine lv_iconst (v := 2) hx hb dX10_heard_108 (by decide) ?_
      refine lv_idiv hx hb dX10_heard_109 (by decide) ?_
      refine lv_isub hx hb dX10_heard_110 ?_
      exact W.iret hx hb hr (mw_end hP hSt hTb hS ⟨_, rfl, hw⟩) hS.2.2 dX10_heard_111
    · have hw := hw.2 c_17
      refine lv_iconst (v := 0) hx hb dX10_heard_102 (by decide) ?_
      refine lv_goto (tgt := 111) hx hb dX10_heard_103 (by decide) ?_
      exact W.iret hx hb hr (mw_end hP hSt hTb hS ⟨_, rfl, hw⟩) hS.2.2 dX10_heard_111
  have hw := hw.2.2.2.2.2.2 c_5 c_6 c_7 c_8 c_9 c_12
  refine mw_tdef (keys := [1, 2, 3, 4, 5, 6]) (tgt := 112) hx hb dX10_heard_13 (List.forall_mem_cons.mpr ⟨c_5, (List.forall_mem_cons.mpr ⟨c_6, (List.forall_mem_cons.mpr ⟨c_7, (List.forall_mem_cons.mpr ⟨c_8, (List.forall_mem_cons.mpr ⟨c_9, (List.forall_mem_cons.mpr ⟨c_12, (fun _ h_ => absurd h_ List.not_mem_nil)⟩)⟩)⟩)⟩)⟩)⟩) (by decide) (by decide) ?_
  refine lv_iconst (v := 5) hx hb dX10_heard_112 (by decide) ?_
  exact W.iret hx hb hr (mw_end hP hSt hTb hS ⟨_, rfl, hw⟩) hS.2.2 dX10_heard_113
def wp_X10_isSheep (h : Nat) (a1 : Int32) (M : Mem) (Q : Int32 → Mem → Prop) : Prop :=
  kdT h = 10 ∧ (wp_X10_in a1 0 ((M (h + 1) 2) - 1) M (fun r_3 M_2 => isb r_3 ∧ Q r_3 M_2))
set_option maxHeartbeats 4000000 in
set_option maxRecDepth 100000 in
theorem so_X10_isSheep (l : Launch) (G : Gm) (h : Nat) (a1 : Int32) (M : Mem) (Q : Int32 → Mem → Prop) (hw : wp_X10_isSheep h a1 M Q) : Ct l G yX10_isSheep cX10_isSheep 2 (some .boolean) ({ frames := 1, cells := 0, slots := 0, locals := 22 } : Room) [.ref (G.1 + h), .int a1] M (Qi Q) := by
  unfold wp_X10_isSheep at hw
  obtain ⟨kh, hw⟩ := hw
  refine ct_of (by decide) (Nat.le_of_ble_eq_true rfl) ?_
  intro p e s m below meth c E_ ls H hl hP hS
  obtain ⟨hx, hb, hml, hown, hts, ht, hr, hlocks, hSt, hTb⟩ := E_
  have hl : lv_has ls 2 [(0, .ref (G.1 + h)), (1, .int a1)] := hl
  refine lv_iload_n hx hb dX10_isSheep_0 rfl (lv_at hl 1 rfl) ?_
  refine lv_iconst (v := 0) hx hb dX10_isSheep_1 (by decide) ?_
  refine lv_aload_n hx hb dX10_isSheep_2 rfl (lv_at hl 0 rfl) ?_
  refine mw_get (ci := 10) (v := .ref (G.1 + (h + 1))) (C := RX10) (T := TX10) (N := 25) hx hb ht inX10 hown hSt hP kh (by decide) (mk10 kh) rfl 0 (by decide) (ht _ wf_RX10_7) rfl rfl dX10_isSheep_3 ?_
  refine lv_iconst (v := 2) hx hb dX10_isSheep_6 (by decide) ?_
  refine mw_ialdc hx hb hSt hP (ks10_0 kh) (ln10_0 kh) 2 (by decide) dX10_isSheep_7 ?_
  refine lv_iconst (v := 1) hx hb dX10_isSheep_8 (by decide) ?_
  refine lv_isub hx hb dX10_isSheep_9 ?_
  refine mw_Sx (As := [.int a1, .int 0, .int ((M (h + 1) 2) - 1)]) (rest := []) (n := 3) ⟨hx, hb, hml, hown, hts⟩ (so_X10_in l G a1 0 ((M (h + 1) 2) - 1) M _ hw) wm_RX10_50 wt_yX10_in wn_RX10 wc_yX10_in (by decide) ⟨Nat.le_of_ble_eq_true rfl, Nat.le_of_ble_eq_true rfl⟩ ⟨rfl, rfl⟩ hSt hTb hP hS rfl hl.1 rfl (Nat.le_of_ble_eq_true rfl) dX10_isSheep_10 ⟨Nat.le_refl 0, Nat.le_refl 0⟩ (fun rr_ M_2 H locs hq hP hS => ?_)
  obtain ⟨r_3, rfl, hw⟩ := hq
  obtain ⟨c_4, hw⟩ := hw
  exact W.zret hx hb hr c_4.narrow (mw_end hP hSt hTb hS ⟨_, rfl, hw⟩) hS.2.2 dX10_isSheep_13
def b_X10_ofSheep_18 (h : Nat) (Q : Int32 → Mem → Prop) (M : Mem) : Prop :=
  wp_X10_errs h (-1000000001) M (fun r_2 M_1 => Q r_2 M_1)
def wp_X10_ofSheep (h : Nat) (a1 : Int32) (a2 : Int32) (M : Mem) (Q : Int32 → Mem → Prop) : Prop :=
  kdT h = 10 ∧ (wp_X10_isSheep h a1 M (fun r_4 M_3 => (r_4 = 0 → b_X10_ofSheep_18 h Q M_3) ∧ (¬ r_4 = 0 → wp_X10_in a2 0 7 M_3 (fun r_7 M_6 => (¬ r_7 = 0 → (6 ≤ a2 → (¬ a2 = 6 → wp_X10_cold h a1 M_6 (fun r_12 M_11 => Q r_12 M_11)) ∧ (a2 = 6 → wp_X10_heard h a1 M_6 (fun r_14 M_13 => Q r_14 M_13))) ∧ (¬ 6 ≤ a2 → wp_X10_its h a1 a2 M_6 (fun r_16 M_15 => Q r_16 M_15))) ∧ (r_7 = 0 → b_X10_ofSheep_18 h Q M_6)))))
set_option maxHeartbeats 4000000 in
set_option maxRecDepth 100000 in
theorem so_X10_ofSheep (l : Launch) (G : Gm) (h : Nat) (a1 : Int32) (a2 : Int32) (M : Mem) (Q : Int32 → Mem → Prop) (hw : wp_X10_ofSheep h a1 a2 M Q) : Ct l G yX10_ofSheep cX10_ofSheep 3 (some .int) ({ frames := 2, cells := 0, slots := 0, locals := 44 } : Room) [.ref (G.1 + h), .int a1, .int a2] M (Qi Q) := by
  unfold wp_X10_ofSheep at hw
  obtain ⟨kh, hw⟩ := hw
  refine ct_of (by decide) (Nat.le_of_ble_eq_true rfl) ?_
  intro p e s m below meth c E_ ls H hl hP hS
  obtain ⟨hx, hb, hml, hown, hts, ht, hr, hlocks, hSt, hTb⟩ := E_
  have hl : lv_has ls 3 [(0, .ref (G.1 + h)), (1, .int a1), (2, .int a2)] := hl
  have J_18 : ∀  (M : Mem) (H : Heap) (locs : List Loc) (ls : Array Slot), b_X10_ofSheep_18 h Q M → va_P G.2.1 clsA (wl G M) H → va_S (inW G) s.heap H locs → lv_has ls 3 [(0, .ref (G.1 + h))] → W p l e ({ frames := 2, cells := 0, slots := 0, locals := 44 } : Room) s m ([.ref (G.1 + h), .int a1, .int a2] : List Value).toArray below meth c H locs 0 0 (MQ below (Pq G (Qi Q)) ([.ref (G.1 + h), .int a1, .int a2] : List Value).toArray s 0 0 (inW G)) (F0 m 18 ls []) := by
    intro  M H locs ls  hw hP hS hl
    unfold b_X10_ofSheep_18 at hw
    refine lv_aload_n hx hb dX10_ofSheep_18 rfl (lv_at hl 0 rfl) ?_
    refine lv_ldc (v := (-1000000001)) hx hb hown (ht _ wk_RX10_62) dX10_ofSheep_19 ?_
    refine mw_V (As := [.int (-1000000001)]) (rest := []) (T := TX10) (N := 25) (n := 1) ⟨hx, hb, hml, hown, hts⟩ (so_X10_errs l G h (-1000000001) M _ hw) wm_RX10_63 wi_yX10_errs wv_yX10_errs wn_RX10 wc_yX10_errs (by decide) ⟨Nat.le_of_ble_eq_true rfl, Nat.le_of_ble_eq_true rfl⟩ ⟨rfl, rfl⟩ kh (by decide) (mk10 kh) rfl hSt hTb hP hS rfl hl.1 rfl (Nat.le_of_ble_eq_true rfl) dX10_ofSheep_21 ⟨Nat.le_refl 0, Nat.le_refl 0⟩ (fun rr_ M_1 H locs hq hP hS => ?_)
    obtain ⟨r_2, rfl, hw⟩ := hq
    exact W.iret hx hb hr (mw_end hP hSt hTb hS ⟨_, rfl, hw⟩) hS.2.2 dX10_ofSheep_24
  refine lv_aload_n hx hb dX10_ofSheep_0 rfl (lv_at hl 0 rfl) ?_
  refine lv_iload_n hx hb dX10_ofSheep_1 rfl (lv_at hl 1 rfl) ?_
  refine mw_V (As := [.int a1]) (rest := []) (T := TX10) (N := 25) (n := 1) ⟨hx, hb, hml, hown, hts⟩ (so_X10_isSheep l G h a1 M _ hw) wm_RX10_91 wi_yX10_isSheep wv_yX10_isSheep wn_RX10 wc_yX10_isSheep (by decide) ⟨Nat.le_of_ble_eq_true rfl, Nat.le_of_ble_eq_true rfl⟩ ⟨rfl, rfl⟩ kh (by decide) (mk10 kh) rfl hSt hTb hP hS rfl hl.1 rfl (Nat.le_of_ble_eq_true rfl) dX10_ofSheep_2 ⟨Nat.le_refl 0, Nat.le_refl 0⟩ (fun rr_ M_3 H locs hq hP hS => ?_)
  obtain ⟨r_4, rfl, hw⟩ := hq
  refine lv_if_eq (tgt := 18) hx hb dX10_ofSheep_5 (by decide) (fun c_5 => ?_) (fun c_5 => ?_)
  · have hw := hw.1 c_5
    exact J_18 M_3 _ _ _ hw hP hS (lv_sub hl [0] rfl)
  · have hw := hw.2 c_5
    refine lv_iload_n hx hb dX10_ofSheep_8 rfl (lv_at hl 2 rfl) ?_
    refine lv_iconst (v := 0) hx hb dX10_ofSheep_9 (by decide) ?_
    refine lv_bipush (v := 7) hx hb dX10_ofSheep_10 (by decide) ?_
    refine mw_Sx (As := [.int a2, .int 0, .int 7]) (rest := []) (n := 3) ⟨hx, hb, hml, hown, hts⟩ (so_X10_in l G a2 0 7 M_3 _ hw) wm_RX10_50 wt_yX10_in wn_RX10 wc_yX10_in (by decide) ⟨Nat.le_of_ble_eq_true rfl, Nat.le_of_ble_eq_true rfl⟩ ⟨rfl, rfl⟩ hSt hTb hP hS rfl hl.1 rfl (Nat.le_of_ble_eq_true rfl) dX10_ofSheep_12 ⟨Nat.le_refl 0, Nat.le_refl 0⟩ (fun rr_ M_6 H locs hq hP hS => ?_)
    obtain ⟨r_7, rfl, hw⟩ := hq
    refine lv_if_ne (tgt := 25) hx hb dX10_ofSheep_15 (by decide) (fun c_8 => ?_) (fun c_8 => ?_)
    · have hw := hw.1 c_8
      refine lv_iload_n hx hb dX10_ofSheep_25 rfl (lv_at hl 2 rfl) ?_
      refine lv_bipush (v := 6) hx hb dX10_ofSheep_26 (by decide) ?_
      refine lv_icmp_ge (tgt := 40) hx hb dX10_ofSheep_28 (by decide) (fun c_9 => ?_) (fun c_9 => ?_)
      · have hw := hw.1 c_9
        refine lv_iload_n hx hb dX10_ofSheep_40 rfl (lv_at hl 2 rfl) ?_
        refine lv_bipush (v := 6) hx hb dX10_ofSheep_41 (by decide) ?_
        refine lv_icmp_ne (tgt := 54) hx hb dX10_ofSheep_43 (by decide) (fun c_10 => ?_) (fun c_10 => ?_)
        · have hw := hw.1 c_10
          refine lv_aload_n hx hb dX10_ofSheep_54 rfl (lv_at hl 0 rfl) ?_
          refine lv_iload_n hx hb dX10_ofSheep_55 rfl (lv_at hl 1 rfl) ?_
          refine mw_V (As := [.int a1]) (rest := []) (T := TX10) (N := 25) (n := 1) ⟨hx, hb, hml, hown, hts⟩ (so_X10_cold l G h a1 M_6 _ hw) wm_RX10_97 wi_yX10_cold wv_yX10_cold wn_RX10 wc_yX10_cold (by decide) ⟨Nat.le_of_ble_eq_true rfl, Nat.le_of_ble_eq_true rfl⟩ ⟨rfl, rfl⟩ kh (by decide) (mk10 kh) rfl hSt hTb hP hS rfl hl.1 rfl (Nat.le_of_ble_eq_true rfl) dX10_ofSheep_56 ⟨Nat.le_refl 0, Nat.le_refl 0⟩ (fun rr_ M_11 H locs hq hP hS => ?_)
          obtain ⟨r_12, rfl, hw⟩ := hq
          exact W.iret hx hb hr (mw_end hP hSt hTb hS ⟨_, rfl, hw⟩) hS.2.2 dX10_ofSheep_59
        · have hw := hw.2 c_10
          refine lv_aload_n hx hb dX10_ofSheep_46 rfl (lv_at hl 0 rfl) ?_
          refine lv_iload_n hx hb dX10_ofSheep_47 rfl (lv_at hl 1 rfl) ?_
          refine mw_V (As := [.int a1]) (rest := []) (T := TX10) (N := 25) (n := 1) ⟨hx, hb, hml, hown, hts⟩ (so_X10_heard l G h a1 M_6 _ hw) wm_RX10_94 wi_yX10_heard wv_yX10_heard wn_RX10 wc_yX10_heard (by decide) ⟨Nat.le_of_ble_eq_true rfl, Nat.le_of_ble_eq_true rfl⟩ ⟨rfl, rfl⟩ kh (by decide) (mk10 kh) rfl hSt hTb hP hS rfl hl.1 rfl (Nat.le_of_ble_eq_true rfl) dX10_ofSheep_48 ⟨Nat.le_refl 0, Nat.le_refl 0⟩ (fun rr_ M_13 H locs hq hP hS => ?_)
          obtain ⟨r_14, rfl, hw⟩ := hq
          refine lv_goto (tgt := 59) hx hb dX10_ofSheep_51 (by decide) ?_
          exact W.iret hx hb hr (mw_end hP hSt hTb hS ⟨_, rfl, hw⟩) hS.2.2 dX10_ofSheep_59
      · have hw := hw.2 c_9
        refine lv_aload_n hx hb dX10_ofSheep_31 rfl (lv_at hl 0 rfl) ?_
        refine lv_iload_n hx hb dX10_ofSheep_32 rfl (lv_at hl 1 rfl) ?_
        refine lv_iload_n hx hb dX10_ofSheep_33 rfl (lv_at hl 2 rfl) ?_
        refine mw_V (As := [.int a1, .int a2]) (rest := []) (T := TX10) (N := 25) (n := 2) ⟨hx, hb, hml, hown, hts⟩ (so_X10_its l G h a1 a2 M_6 _ hw) wm_RX10_67 wi_yX10_its wv_yX10_its wn_RX10 wc_yX10_its (by decide) ⟨Nat.le_of_ble_eq_true rfl, Nat.le_of_ble_eq_true rfl⟩ ⟨rfl, rfl⟩ kh (by decide) (mk10 kh) rfl hSt hTb hP hS rfl hl.1 rfl (Nat.le_of_ble_eq_true rfl) dX10_ofSheep_34 ⟨Nat.le_refl 0, Nat.le_refl 0⟩ (fun rr_ M_15 H locs hq hP hS => ?_)
        obtain ⟨r_16, rfl, hw⟩ := hq
        refine lv_goto (tgt := 59) hx hb dX10_ofSheep_37 (by decide) ?_
        exact W.iret hx hb hr (mw_end hP hSt hTb hS ⟨_, rfl, hw⟩) hS.2.2 dX10_ofSheep_59
    · have hw := hw.2 c_8
      exact J_18 M_6 _ _ _ hw hP hS (lv_sub hl [0] rfl)
