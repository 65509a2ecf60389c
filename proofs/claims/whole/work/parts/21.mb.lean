def b_X10_change_92 (h : Nat) (Q : Int32 → Mem → Prop) (M : Mem) : Prop :=
  wp_X10_errs h (-1000000001) M (fun r_2 M_1 => Q r_2 M_1)
def b_X10_change_58 (h : Nat) (Q : Int32 → Mem → Prop) (v1 : Int32) (v2 : Int32) (v3 : Int32) (s0 : Int32) (M : Mem) : Prop :=
  wp_X10_isSheep h v1 M (fun r_4 M_3 => (r_4 = 0 → b_X10_change_92 h Q M_3) ∧ (¬ r_4 = 0 → (s0 = 0 → b_X10_change_92 h Q M_3) ∧ (¬ s0 = 0 → wp_X10_becomes h (((30 + (6 * v1)) + 2) + v2) v3 M_3 (fun r_8 M_7 => Q r_8 M_7))))
def b_X10_change_57 (h : Nat) (Q : Int32 → Mem → Prop) (v1 : Int32) (v2 : Int32) (v3 : Int32) (M : Mem) : Prop :=
  b_X10_change_58 h Q v1 v2 v3 0 M
def wp_X10_change (h : Nat) (a1 : Int32) (a2 : Int32) (a3 : Int32) (M : Mem) (Q : Int32 → Mem → Prop) : Prop :=
  kdT h = 10 ∧ ((¬ a2 = 0 → (¬ a2 = 1 → (¬ a2 = 2 → (¬ a2 = 3 → b_X10_change_57 h Q a1 a2 a3 M) ∧ (a2 = 3 → wp_X10_in a3 0 1 M (fun r_14 M_13 => (r_14 = 0 → b_X10_change_57 h Q a1 a2 a3 M_13) ∧ (¬ r_14 = 0 → b_X10_change_58 h Q a1 a2 a3 1 M_13)))) ∧ (a2 = 2 → wp_X10_isMark h a3 M (fun r_17 M_16 => b_X10_change_58 h Q a1 a2 a3 r_17 M_16))) ∧ (a2 = 1 → wp_X10_in a3 0 99 M (fun r_19 M_18 => b_X10_change_58 h Q a1 a2 a3 r_19 M_18))) ∧ (a2 = 0 → wp_X10_isCell a3 M (fun r_21 M_20 => b_X10_change_58 h Q a1 a2 a3 r_21 M_20)))
set_option maxHeartbeats 4000000 in
set_option maxRecDepth 100000 in
theorem so_X10_change (l : Launch) (G : Gm) (h : Nat) (a1 : Int32) (a2 : Int32) (a3 : Int32) (M : Mem) (Q : Int32 → Mem → Prop) (hw : wp_X10_change h a1 a2 a3 M Q) : Ct l G yX10_change cX10_change 5 (some .int) ({ frames := 2, cells := 0, slots := 0, locals := 43 } : Room) [.ref (G.1 + h), .int a1, .int a2, .int a3] M (Qi Q) := by
  unfold wp_X10_change at hw
  obtain ⟨kh, hw⟩ := hw
  refine ct_of (by decide) (Nat.le_of_ble_eq_true rfl) ?_
  intro p e s m below meth c E_ ls H hl hP hS
  obtain ⟨hx, hb, hml, hown, hts, ht, hr, hlocks, hSt, hTb⟩ := E_
  have hl : lv_has ls 5 [(0, .ref (G.1 + h)), (1, .int a1), (2, .int a2), (3, .int a3)] := hl
  have J_92 : ∀  (M : Mem) (H : Heap) (locs : List Loc) (ls : Array Slot), b_X10_change_92 h Q M → va_P G.2.1 clsA (wl G M) H → va_S (inW G) s.heap H locs → lv_has ls 5 [(0, .ref (G.1 + h))] → W p l e ({ frames := 2, cells := 0, slots := 0, locals := 43 } : Room) s m ([.ref (G.1 + h), .int a1, .int a2, .int a3] : List Value).toArray below meth c H locs 0 0 (MQ below (Pq G (Qi Q)) ([.ref (G.1 + h), .int a1, .int a2, .int a3] : List Value).toArray s 0 0 (inW G)) (F0 m 92 ls []) := by
    intro  M H locs ls  hw hP hS hl
    unfold b_X10_change_92 at hw
    refine lv_aload_n hx hb dX10_change_92 rfl (lv_at hl 0 rfl) ?_
    refine lv_ldc (v := (-1000000001)) hx hb hown (ht _ wk_RX10_62) dX10_change_93 ?_
    refine mw_V (As := [.int (-1000000001)]) (rest := []) (T := TX10) (N := 25) (n := 1) ⟨hx, hb, hml, hown, hts⟩ (so_X10_errs l G h (-1000000001) M _ hw) wm_RX10_63 wi_yX10_errs wv_yX10_errs wn_RX10 wc_yX10_errs (by decide) ⟨Nat.le_of_ble_eq_true rfl, Nat.le_of_ble_eq_true rfl⟩ ⟨rfl, rfl⟩ kh (by decide) (mk10 kh) rfl hSt hTb hP hS rfl hl.1 rfl (Nat.le_of_ble_eq_true rfl) dX10_change_95 ⟨Nat.le_refl 0, Nat.le_refl 0⟩ (fun rr_ M_1 H locs hq hP hS => ?_)
    obtain ⟨r_2, rfl, hw⟩ := hq
    exact W.iret hx hb hr (mw_end hP hSt hTb hS ⟨_, rfl, hw⟩) hS.2.2 dX10_change_98
  have J_58 : ∀ (v1 : Int32) (v2 : Int32) (v3 : Int32) (s0 : Int32) (M : Mem) (H : Heap) (locs : List Loc) (ls : Array Slot), b_X10_change_58 h Q v1 v2 v3 s0 M → va_P G.2.1 clsA (wl G M) H → va_S (inW G) s.heap H locs → lv_has ls 5 [(0, .ref (G.1 + h)), (1, .int v1), (2, .int v2), (3, .int v3)] → W p l e ({ frames := 2, cells := 0, slots := 0, locals := 43 } : Room) s m ([.ref (G.1 + h), .int a1, .int a2, .int a3] : List Value).toArray below meth c H locs 0 0 (MQ below (Pq G (Qi Q)) ([.ref (G.1 + h), .int a1, .int a2, .int a3] : List Value).toArray s 0 0 (inW G)) (F0 m 58 ls [.int s0]) := by
    intro v1 v2 v3 s0 M H locs ls  hw hP hS hl
    unfold b_X10_change_58 at hw
    refine lv_istore (lv' := [(4, .int s0), (0, .ref (G.1 + h)), (1, .int v1), (2, .int v2), (3, .int v3)]) hx hb dX10_change_58 hl (by decide) rfl (fun ls hl => ?_)
    refine lv_aload_n hx hb dX10_change_60 rfl (lv_at hl 1 rfl) ?_
    refine lv_iload_n hx hb dX10_change_61 rfl (lv_at hl 2 rfl) ?_
    refine mw_V (As := [.int v1]) (rest := []) (T := TX10) (N := 25) (n := 1) ⟨hx, hb, hml, hown, hts⟩ (so_X10_isSheep l G h v1 M _ hw) wm_RX10_91 wi_yX10_isSheep wv_yX10_isSheep wn_RX10 wc_yX10_isSheep (by decide) ⟨Nat.le_of_ble_eq_true rfl, Nat.le_of_ble_eq_true rfl⟩ ⟨rfl, rfl⟩ kh (by decide) (mk10 kh) rfl hSt hTb hP hS rfl hl.1 rfl (Nat.le_of_ble_eq_true rfl) dX10_change_62 ⟨Nat.le_refl 0, Nat.le_refl 0⟩ (fun rr_ M_3 H locs hq hP hS => ?_)
    obtain ⟨r_4, rfl, hw⟩ := hq
    refine lv_if_eq (tgt := 92) hx hb dX10_change_65 (by decide) (fun c_5 => ?_) (fun c_5 => ?_)
    · have hw := hw.1 c_5
      exact J_92 M_3 _ _ _ hw hP hS (lv_sub hl [1] rfl)
    · have hw := hw.2 c_5
      refine lv_iload hx hb dX10_change_68 (lv_at hl 0 rfl) ?_
      refine lv_if_eq (tgt := 92) hx hb dX10_change_70 (by decide) (fun c_6 => ?_) (fun c_6 => ?_)
      · have hw := hw.1 c_6
        exact J_92 M_3 _ _ _ hw hP hS (lv_sub hl [1] rfl)
      · have hw := hw.2 c_6
        refine lv_aload_n hx hb dX10_change_73 rfl (lv_at hl 1 rfl) ?_
        refine lv_bipush (v := 30) hx hb dX10_change_74 (by decide) ?_
        refine lv_bipush (v := 6) hx hb dX10_change_76 (by decide) ?_
        refine lv_iload_n hx hb dX10_change_78 rfl (lv_at hl 2 rfl) ?_
        refine lv_imul hx hb dX10_change_79 ?_
        refine lv_iadd hx hb dX10_change_80 ?_
        refine lv_iconst (v := 2) hx hb dX10_change_81 (by decide) ?_
        refine lv_iadd hx hb dX10_change_82 ?_
        refine lv_iload_n hx hb dX10_change_83 rfl (lv_at hl 3 rfl) ?_
        refine lv_iadd hx hb dX10_change_84 ?_
        refine lv_iload_n hx hb dX10_change_85 rfl (lv_at hl 4 rfl) ?_
        refine mw_V (As := [.int (((30 + (6 * v1)) + 2) + v2), .int v3]) (rest := []) (T := TX10) (N := 25) (n := 2) ⟨hx, hb, hml, hown, hts⟩ (so_X10_becomes l G h (((30 + (6 * v1)) + 2) + v2) v3 M_3 _ hw) wm_RX10_58 wi_yX10_becomes wv_yX10_becomes wn_RX10 wc_yX10_becomes (by decide) ⟨Nat.le_of_ble_eq_true rfl, Nat.le_of_ble_eq_true rfl⟩ ⟨rfl, rfl⟩ kh (by decide) (mk10 kh) rfl hSt hTb hP hS rfl hl.1 rfl (Nat.le_of_ble_eq_true rfl) dX10_change_86 ⟨Nat.le_refl 0, Nat.le_refl 0⟩ (fun rr_ M_7 H locs hq hP hS => ?_)
        obtain ⟨r_8, rfl, hw⟩ := hq
        refine lv_goto (tgt := 98) hx hb dX10_change_89 (by decide) ?_
        exact W.iret hx hb hr (mw_end hP hSt hTb hS ⟨_, rfl, hw⟩) hS.2.2 dX10_change_98
  have J_57 : ∀ (v1 : Int32) (v2 : Int32) (v3 : Int32) (M : Mem) (H : Heap) (locs : List Loc) (ls : Array Slot), b_X10_change_57 h Q v1 v2 v3 M → va_P G.2.1 clsA (wl G M) H → va_S (inW G) s.heap H locs → lv_has ls 5 [(0, .ref (G.1 + h)), (1, .int v1), (2, .int v2), (3, .int v3)] → W p l e ({ frames := 2, cells := 0, slots := 0, locals := 43 } : Room) s m ([.ref (G.1 + h), .int a1, .int a2, .int a3] : List Value).toArray below meth c H locs 0 0 (MQ below (Pq G (Qi Q)) ([.ref (G.1 + h), .int a1, .int a2, .int a3] : List Value).toArray s 0 0 (inW G)) (F0 m 57 ls []) := by
    intro v1 v2 v3 M H locs ls  hw hP hS hl
    unfold b_X10_change_57 at hw
    refine lv_iconst (v := 0) hx hb dX10_change_57 (by decide) ?_
    exact J_58 v1 v2 v3 0 M _ _ _ hw hP hS (lv_sub hl [0, 1, 2, 3] rfl)
  refine lv_iload_n hx hb dX10_change_0 rfl (lv_at hl 2 rfl) ?_
  refine lv_if_ne (tgt := 11) hx hb dX10_change_1 (by decide) (fun c_9 => ?_) (fun c_9 => ?_)
  · have hw := hw.1 c_9
    refine lv_iload_n hx hb dX10_change_11 rfl (lv_at hl 2 rfl) ?_
    refine lv_iconst (v := 1) hx hb dX10_change_12 (by decide) ?_
    refine lv_icmp_ne (tgt := 26) hx hb dX10_change_13 (by decide) (fun c_10 => ?_) (fun c_10 => ?_)
    · have hw := hw.1 c_10
      refine lv_iload_n hx hb dX10_change_26 rfl (lv_at hl 2 rfl) ?_
      refine lv_iconst (v := 2) hx hb dX10_change_27 (by decide) ?_
      refine lv_icmp_ne (tgt := 39) hx hb dX10_change_28 (by decide) (fun c_11 => ?_) (fun c_11 => ?_)
      · have hw := hw.1 c_11
        refine lv_iload_n hx hb dX10_change_39 rfl (lv_at hl 2 rfl) ?_
        refine lv_iconst (v := 3) hx hb dX10_change_40 (by decide) ?_
        refine lv_icmp_ne (tgt := 57) hx hb dX10_change_41 (by decide) (fun c_12 => ?_) (fun c_12 => ?_)
        · have hw := hw.1 c_12
          exact J_57 a1 a2 a3 M _ _ _ hw hP hS (lv_sub hl [0, 1, 2, 3] rfl)
        · have hw := hw.2 c_12
          refine lv_iload_n hx hb dX10_change_44 rfl (lv_at hl 3 rfl) ?_
          refine lv_iconst (v := 0) hx hb dX10_change_45 (by decide) ?_
          refine lv_iconst (v := 1) hx hb dX10_change_46 (by decide) ?_
          refine mw_Sx (As := [.int a3, .int 0, .int 1]) (rest := []) (n := 3) ⟨hx, hb, hml, hown, hts⟩ (so_X10_in l G a3 0 1 M _ hw) wm_RX10_50 wt_yX10_in wn_RX10 wc_yX10_in (by decide) ⟨Nat.le_of_ble_eq_true rfl, Nat.le_of_ble_eq_true rfl⟩ ⟨rfl, rfl⟩ hSt hTb hP hS rfl hl.1 rfl (Nat.le_of_ble_eq_true rfl) dX10_change_47 ⟨Nat.le_refl 0, Nat.le_refl 0⟩ (fun rr_ M_13 H locs hq hP hS => ?_)
          obtain ⟨r_14, rfl, hw⟩ := hq
          refine lv_if_eq (tgt := 57) hx hb dX10_change_50 (by decide) (fun c_15 => ?_) (fun c_15 => ?_)
          · have hw := hw.1 c_15
            exact J_57 a1 a2 a3 M_13 _ _ _ hw hP hS (lv_sub hl [0, 1, 2, 3] rfl)
          · have hw := hw.2 c_15
            refine lv_iconst (v := 1) hx hb dX10_change_53 (by decide) ?_
            refine lv_goto (tgt := 58) hx hb dX10_change_54 (by decide) ?_
            exact J_58 a1 a2 a3 1 M_13 _ _ _ hw hP hS (lv_sub hl [0, 1, 2, 3] rfl)
      · have hw := hw.2 c_11
        refine lv_aload_n hx hb dX10_change_31 rfl (lv_at hl 0 rfl) ?_
        refine lv_iload_n hx hb dX10_change_32 rfl (lv_at hl 3 rfl) ?_
        refine mw_V (As := [.int a3]) (rest := []) (T := TX10) (N := 25) (n := 1) ⟨hx, hb, hml, hown, hts⟩ (so_X10_isMark l G h a3 M _ hw) wm_RX10_84 wi_yX10_isMark wv_yX10_isMark wn_RX10 wc_yX10_isMark (by decide) ⟨Nat.le_of_ble_eq_true rfl, Nat.le_of_ble_eq_true rfl⟩ ⟨rfl, rfl⟩ kh (by decide) (mk10 kh) rfl hSt hTb hP hS rfl hl.1 rfl (Nat.le_of_ble_eq_true rfl) dX10_change_33 ⟨Nat.le_refl 0, Nat.le_refl 0⟩ (fun rr_ M_16 H locs hq hP hS => ?_)
        obtain ⟨r_17, rfl, hw⟩ := hq
        refine lv_goto (tgt := 58) hx hb dX10_change_36 (by decide) ?_
        exact J_58 a1 a2 a3 r_17 M_16 _ _ _ hw hP hS (lv_sub hl [0, 1, 2, 3] rfl)
    · have hw := hw.2 c_10
      refine lv_iload_n hx hb dX10_change_16 rfl (lv_at hl 3 rfl) ?_
      refine lv_iconst (v := 0) hx hb dX10_change_17 (by decide) ?_
      refine lv_bipush (v := 99) hx hb dX10_change_18 (by decide) ?_
      refine mw_Sx (As := [.int a3, .int 0, .int 99]) (rest := []) (n := 3) ⟨hx, hb, hml, hown, hts⟩ (so_X10_in l G a3 0 99 M _ hw) wm_RX10_50 wt_yX10_in wn_RX10 wc_yX10_in (by decide) ⟨Nat.le_of_ble_eq_true rfl, Nat.le_of_ble_eq_true rfl⟩ ⟨rfl, rfl⟩ hSt hTb hP hS rfl hl.1 rfl (Nat.le_of_ble_eq_true rfl) dX10_change_20 ⟨Nat.le_refl 0, Nat.le_refl 0⟩ (fun rr_ M_18 H locs hq hP hS => ?_)
      obtain ⟨r_19, rfl, hw⟩ := hq
      refine lv_goto (tgt := 58) hx hb dX10_change_23 (by decide) ?_
      exact J_58 a1 a2 a3 r_19 M_18 _ _ _ hw hP hS (lv_sub hl [0, 1, 2, 3] rfl)
  · have hw := hw.2 c_9
    refine lv_iload_n hx hb dX10_change_4 rfl (lv_at hl 3 rfl) ?_
    refine mw_Sx (As := [.int a3]) (rest := []) (n := 1) ⟨hx, hb, hml, hown, hts⟩ (so_X10_isCell l G a3 M _ hw) wm_RX10_54 wt_yX10_isCell wn_RX10 wc_yX10_isCell (by decide) ⟨Nat.le_of_ble_eq_true rfl, Nat.le_of_ble_eq_true rfl⟩ ⟨rfl, rfl⟩ hSt hTb hP hS rfl hl.1 rfl (Nat.le_of_ble_eq_true rfl) dX10_change_5 ⟨Nat.le_refl 0, Nat.le_refl 0⟩ (fun rr_ M_20 H locs hq hP hS => ?_)
    obtain ⟨r_21, rfl, hw⟩ := hq
    refine lv_goto (tgt := 58) hx hb dX10_change_8 (by decide) ?_
    exact J_58 a1 a2 a3 r_21 M_20 _ _ _ hw hP hS (lv_sub hl [0, 1, 2, 3] rfl)
def b_X10_become_18 (h : Nat) (Q : Int32 → Mem → Prop) (M : Mem) : Prop :=
  wp_X10_errs h (-1000000001) M (fun r_2 M_1 => Q r_2 M_1)
def wp_X10_become (h : Nat) (a1 : Int32) (a2 : Int32) (M : Mem) (Q : Int32 → Mem → Prop) : Prop :=
  kdT h = 10 ∧ (wp_X10_isSheep h a1 M (fun r_4 M_3 => (r_4 = 0 → b_X10_become_18 h Q M_3) ∧ (¬ r_4 = 0 → wp_X10_in a2 0 69 M_3 (fun r_7 M_6 => (¬ r_7 = 0 → wp_X10_gets h a1 1 (irm a2 10) M_6 (fun M_9 => wp_X10_becomes h (30 + (6 * a1)) (a2 / 10) M_9 (fun r_11 M_10 => Q r_11 M_10))) ∧ (r_7 = 0 → b_X10_become_18 h Q M_6)))))
set_option maxHeartbeats 4000000 in
set_option maxRecDepth 100000 in
theorem so_X10_become (l : Launch) (G : Gm) (h : Nat) (a1 : Int32) (a2 : Int32) (M : Mem) (Q : Int32 → Mem → Prop) (hw : wp_X10_become h a1 a2 M Q) : Ct l G yX10_become cX10_become 3 (some .int) ({ frames := 2, cells := 0, slots := 0, locals := 43 } : Room) [.ref (G.1 + h), .int a1, .int a2] M (Qi Q) := by
  unfold wp_X10_become at hw
  obtain ⟨kh, hw⟩ := hw
  refine ct_of (by decide) (Nat.le_of_ble_eq_true rfl) ?_
  intro p e s m below meth c E_ ls H hl hP hS
  obtain ⟨hx, hb, hml, hown, hts, ht, hr, hlocks, hSt, hTb⟩ := E_
  have hl : lv_has ls 3 [(0, .ref (G.1 + h)), (1, .int a1), (2, .int a2)] := hl
  have J_18 : ∀  (M : Mem) (H : Heap) (locs : List Loc) (ls : Array Slot), b_X10_become_18 h Q M → va_P G.2.1 clsA (wl G M) H → va_S (inW G) s.heap H locs → lv_has ls 3 [(0, .ref (G.1 + h))] → W p l e ({ frames := 2, cells := 0, slots := 0, locals := 43 } : Room) s m ([.ref (G.1 + h), .int a1, .int a2] : List Value).toArray below meth c H locs 0 0 (MQ below (Pq G (Qi Q)) ([.ref (G.1 + h), .int a1, .int a2] : List Value).toArray s 0 0 (inW G)) (F0 m 18 ls []) := by
    intro  M H locs ls  hw hP hS hl
    unfold b_X10_become_18 at hw
    refine lv_aload_n hx hb dX10_become_18 rfl (lv_at hl 0 rfl) ?_
    refine lv_ldc (v := (-1000000001)) hx hb hown (ht _ wk_RX10_62) dX10_become_19 ?_
    refine mw_V (As := [.int (-1000000001)]) (rest := []) (T := TX10) (N := 25) (n := 1) ⟨hx, hb, hml, hown, hts⟩ (so_X10_errs l G h (-1000000001) M _ hw) wm_RX10_63 wi_yX10_errs wv_yX10_errs wn_RX10 wc_yX10_errs (by decide) ⟨Nat.le_of_ble_eq_true rfl, Nat.le_of_ble_eq_true rfl⟩ ⟨rfl, rfl⟩ kh (by decide) (mk10 kh) rfl hSt hTb hP hS rfl hl.1 rfl (Nat.le_of_ble_eq_true rfl) dX10_become_21 ⟨Nat.le_refl 0, Nat.le_refl 0⟩ (fun rr_ M_1 H locs hq hP hS => ?_)
    obtain ⟨r_2, rfl, hw⟩ := hq
    exact W.iret hx hb hr (mw_end hP hSt hTb hS ⟨_, rfl, hw⟩) hS.2.2 dX10_become_24
  refine lv_aload_n hx hb dX10_become_0 rfl (lv_at hl 0 rfl) ?_
  refine lv_iload_n hx hb dX10_become_1 rfl (lv_at hl 1 rfl) ?_
  refine mw_V (As := [.int a1]) (rest := []) (T := TX10) (N := 25) (n := 1) ⟨hx, hb, hml, hown, hts⟩ (so_X10_isSheep l G h a1 M _ hw) wm_RX10_91 wi_yX10_isSheep wv_yX10_isSheep wn_RX10 wc_yX10_isSheep (by decide) ⟨Nat.le_of_ble_eq_true rfl, Nat.le_of_ble_eq_true rfl⟩ ⟨rfl, rfl⟩ kh (by decide) (mk10 kh) rfl hSt hTb hP hS rfl hl.1 rfl (Nat.le_of_ble_eq_true rfl) dX10_become_2 ⟨Nat.le_refl 0, Nat.le_refl 0⟩ (fun rr_ M_3 H locs hq hP hS => ?_)
  obtain ⟨r_4, rfl, hw⟩ := hq
  refine lv_if_eq (tgt := 18) hx hb dX10_become_5 (by decide) (fun c_5 => ?_) (fun c_5 => ?_)
  · have hw := hw.1 c_5
    exact J_18 M_3 _ _ _ hw hP hS (lv_sub hl [0] rfl)
  · have hw := hw.2 c_5
    refine lv_iload_n hx hb dX10_become_8 rfl (lv_at hl 2 rfl) ?_
    refine lv_iconst (v := 0) hx hb dX10_become_9 (by decide) ?_
    refine lv_bipush (v := 69) hx hb dX10_become_10 (by decide) ?_
    refine mw_Sx (As := [.int a2, .int 0, .int 69]) (rest := []) (n := 3) ⟨hx, hb, hml, hown, hts⟩ (so_X10_in l G a2 0 69 M_3 _ hw) wm_RX10_50 wt_yX10_in wn_RX10 wc_yX10_in (by decide) ⟨Nat.le_of_ble_eq_true rfl, Nat.le_of_ble_eq_true rfl⟩ ⟨rfl, rfl⟩ hSt hTb hP hS rfl hl.1 rfl (Nat.le_of_ble_eq_true rfl) dX10_become_12 ⟨Nat.le_refl 0, Nat.le_refl 0⟩ (fun rr_ M_6 H locs hq hP hS => ?_)
    obtain ⟨r_7, rfl, hw⟩ := hq
    refine lv_if_ne (tgt := 25) hx hb dX10_become_15 (by decide) (fun c_8 => ?_) (fun c_8 => ?_)
    · have hw := hw.1 c_8
      refine lv_aload_n hx hb dX10_become_25 rfl (lv_at hl 0 rfl) ?_
      refine lv_iload_n hx hb dX10_become_26 rfl (lv_at hl 1 rfl) ?_
      refine lv_iconst (v := 1) hx hb dX10_become_27 (by decide) ?_
      refine lv_iload_n hx hb dX10_become_28 rfl (lv_at hl 2 rfl) ?_
      refine lv_bipush (v := 10) hx hb dX10_become_29 (by decide) ?_
      refine lv_irem hx hb dX10_become_31 (by decide) ?_
      refine mw_V (As := [.int a1, .int 1, .int (irm a2 10)]) (rest := []) (T := TX10) (N := 25) (n := 3) ⟨hx, hb, hml, hown, hts⟩ (so_X10_gets l G h a1 1 (irm a2 10) M_6 _ hw) wm_RX10_87 wi_yX10_gets wv_yX10_gets wn_RX10 wc_yX10_gets (by decide) ⟨Nat.le_of_ble_eq_true rfl, Nat.le_of_ble_eq_true rfl⟩ ⟨rfl, rfl⟩ kh (by decide) (mk10 kh) rfl hSt hTb hP hS rfl hl.1 rfl (Nat.le_of_ble_eq_true rfl) dX10_become_32 ⟨Nat.le_refl 0, Nat.le_refl 0⟩ (fun rr_ M_9 H locs hq hP hS => ?_)
      obtain ⟨rfl, hw⟩ := hq
      refine lv_aload_n hx hb dX10_become_35 rfl (lv_at hl 0 rfl) ?_
      refine lv_bipush (v := 30) hx hb dX10_become_36 (by decide) ?_
      refine lv_bipush (v := 6) hx hb dX10_become_38 (by decide) ?_
      refine lv_iload_n hx hb dX10_become_40 rfl (lv_at hl 1 rfl) ?_
      refine lv_imul hx hb dX10_become_41 ?_
      refine lv_iadd hx hb dX10_become_42 ?_
      refine lv_iload_n hx hb dX10_become_43 rfl (lv_at hl 2 rfl) ?_
      refine lv_bipush (v := 10) hx hb dX10_become_44 (by decide) ?_
      refine lv_idiv hx hb dX10_become_46 (by decide) ?_
      refine mw_V (As := [.int (30 + (6 * a1)), .int (a2 / 10)]) (rest := []) (T := TX10) (N := 25) (n := 2) ⟨hx, hb, hml, hown, hts⟩ (so_X10_becomes l G h (30 + (6 * a1)) (a2 / 10) M_9 _ hw) wm_RX10_58 wi_yX10_becomes wv_yX10_becomes wn_RX10 wc_yX10_becomes (by decide) ⟨Nat.le_of_ble_eq_true rfl, Nat.le_of_ble_eq_true rfl⟩ ⟨rfl, rfl⟩ kh (by decide) (mk10 kh) rfl hSt hTb hP hS rfl hl.1 rfl (Nat.le_of_ble_eq_true rfl) dX10_become_47 ⟨Nat.le_refl 0, Nat.le_refl 0⟩ (fun rr_ M_10 H locs hq hP hS => ?_)
      obtain ⟨r_11, rfl, hw⟩ := hq
      exact W.iret hx hb hr (mw_end hP hSt hTb hS ⟨_, rfl, hw⟩) hS.2.2 dX10_become_50
    · have hw := hw.2 c_8
      exact J_18 M_6 _ _ _ hw hP hS (lv_sub hl [0] rfl)
def wp_X10_above (a0 : Int32) (M : Mem) (Q : Int32 → Mem → Prop) : Prop :=
  (¬ a0 = 0 → (a0 ≤ 3 → Q 0 M) ∧ (¬ a0 ≤ 3 → Q (a0 - 3) M)) ∧ (a0 = 0 → Q (-1) M)
set_option maxHeartbeats 4000000 in
set_option maxRecDepth 100000 in
theorem so_X10_above (l : Launch) (G : Gm) (a0 : Int32) (M : Mem) (Q : Int32 → Mem → Prop) (hw : wp_X10_above a0 M Q) : Ct l G yX10_above cX10_above 1 (some .int) ({ frames := 0, cells := 0, slots := 0, locals := 0 } : Room) [.int a0] M (Qi Q) := by
  unfold wp_X10_above at hw
  refine ct_of (by decide) (Nat.le_of_ble_eq_true rfl) ?_
  intro p e s m below meth c E_ ls H hl hP hS
  obtain ⟨hx, hb, hml, hown, hts, ht, hr, hlocks, hSt, hTb⟩ := E_
  have hl : lv_has ls 1 [(0, .int a0)] := hl
  refine lv_iload_n hx hb dX10_above_0 rfl (lv_at hl 0 rfl) ?_
  refine lv_if_ne (tgt := 8) hx hb dX10_above_1 (by decide) (fun c_1 => ?_) (fun c_1 => ?_)
  · have hw := hw.1 c_1
    refine lv_iload_n hx hb dX10_above_8 rfl (lv_at hl 0 rfl) ?_
    refine lv_iconst (v := 3) hx hb dX10_above_9 (by decide) ?_
    refine lv_icmp_le (tgt := 19) hx hb dX10_above_10 (by decide) (fun c_2 => ?_) (fun c_2 => ?_)
    · have hw := hw.1 c_2
      refine lv_iconst (v := 0) hx hb dX10_above_19 (by decide) ?_
      exact W.iret hx hb hr (mw_end hP hSt hTb hS ⟨_, rfl, hw⟩) hS.2.2 dX10_above_20
    · have hw := hw.2 c_2
      refine lv_iload_n hx hb dX10_above_13 rfl (lv_at hl 0 rfl) ?_
      refine lv_iconst (v := 3) hx hb dX10_above_14 (by decide) ?_
      refine lv_isub hx hb dX10_above_15 ?_
      refine lv_goto (tgt := 20) hx hb dX10_above_16 (by decide) ?_
      exact W.iret hx hb hr (mw_end hP hSt hTb hS ⟨_, rfl, hw⟩) hS.2.2 dX10_above_20
  · have hw := hw.2 c_1
    refine lv_iconst (v := (-1)) hx hb dX10_above_4 (by decide) ?_
    refine lv_goto (tgt := 20) hx hb dX10_above_5 (by decide) ?_
    exact W.iret hx hb hr (mw_end hP hSt hTb hS ⟨_, rfl, hw⟩) hS.2.2 dX10_above_20
def b_X10_as_49 (h : Nat) (Q : Int32 → Mem → Prop) (v1 : Int32) (v3 : Int32) (M : Mem) : Prop :=
  (0 ≤ v3 → wp_X10_its h v1 1 M (fun r_3 M_2 => Q r_3 M_2)) ∧ (¬ 0 ≤ v3 → wp_X10_errs h (-1000000005) M (fun r_5 M_4 => Q r_5 M_4))
def B_X10_as_32 (h : Nat) (Q : Int32 → Mem → Prop) (v1 : Int32) (v2 : Int32) (K32 : Int32 → Mem → Prop) (v3 : Int32) (M : Mem) : Prop :=
  (v3 < 0 → b_X10_as_49 h Q v1 v3 M) ∧ (¬ v3 < 0 → (v3 = v2 → b_X10_as_49 h Q v1 v3 M) ∧ (¬ v3 = v2 → wp_X10_above v3 M (fun r_9 M_8 => K32 r_9 M_8)))
def l_X10_as_32 (h : Nat) (Q : Int32 → Mem → Prop) (v1 : Int32) (v2 : Int32) : Nat → Int32 → Mem → Prop
  | 0 => fun _ _ => False
  | n + 1 => B_X10_as_32 h Q v1 v2 (l_X10_as_32 h Q v1 v2 n)
def b_X10_as_18 (h : Nat) (Q : Int32 → Mem → Prop) (M : Mem) : Prop :=
  wp_X10_errs h (-1000000001) M (fun r_11 M_10 => Q r_11 M_10)
def wp_X10_as (h : Nat) (a1 : Int32) (a2 : Int32) (M : Mem) (Q : Int32 → Mem → Prop) : Prop :=
  kdT h = 10 ∧ (wp_X10_isSheep h a1 M (fun r_13 M_12 => (r_13 = 0 → b_X10_as_18 h Q M_12) ∧ (¬ r_13 = 0 → wp_X10_in a2 0 6 M_12 (fun r_16 M_15 => (¬ r_16 = 0 → wp_X10_its h a1 0 M_15 (fun r_19 M_18 => ∃ n, l_X10_as_32 h Q a1 a2 n r_19 M_18)) ∧ (r_16 = 0 → b_X10_as_18 h Q M_15)))))
set_option maxHeartbeats 4000000 in
set_option maxRecDepth 100000 in
theorem so_X10_as (l : Launch) (G : Gm) (h : Nat) (a1 : Int32) (a2 : Int32) (M : Mem) (Q : Int32 → Mem → Prop) (hw : wp_X10_as h a1 a2 M Q) : Ct l G yX10_as cX10_as 4 (some .int) ({ frames := 2, cells := 0, slots := 0, locals := 43 } : Room) [.ref (G.1 + h), .int a1, .int a2] M (Qi Q) := by
  unfold wp_X10_as at hw
  obtain ⟨kh, hw⟩ := hw
  refine ct_of (by decide) (Nat.le_of_ble_eq_true rfl) ?_
  intro p e s m below meth c E_ ls H hl hP hS
  obtain ⟨hx, hb, hml, hown, hts, ht, hr, hlocks, hSt, hTb⟩ := E_
  have hl : lv_has ls 4 [(0, .ref (G.1 + h)), (1, .int a1), (2, .int a2)] := hl
  have J_49 : ∀ (v1 : Int32) (v3 : Int32) (M : Mem) (H : Heap) (locs : List Loc) (ls : Array Slot), b_X10_as_49 h Q v1 v3 M → va_P G.2.1 clsA (wl G M) H → va_S (inW G) s.heap H locs → lv_has ls 4 [(0, .ref (G.1 + h)), (1, .int v1), (3, .int v3)] → W p l e ({ frames := 2, cells := 0, slots := 0, locals := 43 } : Room) s m ([.ref (G.1 + h), .int a1, .int a2] : List Value).toArray below meth c H locs 0 0 (MQ below (Pq G (Qi Q)) ([.ref (G.1 + h), .int a1, .int a2] : List Value).toArray s 0 0 (inW G)) (F0 m 49 ls []) := by
    intro v1 v3 M H locs ls  hw hP hS hl
    unfold b_X10_as_49 at hw
    refine lv_iload_n hx hb dX10_as_49 rfl (lv_at hl 2 rfl) ?_
    refine lv_if_ge (tgt := 62) hx hb dX10_as_50 (by decide) (fun c_1 => ?_) (fun c_1 => ?_)
    · have hw := hw.1 c_1
      refine lv_aload_n hx hb dX10_as_62 rfl (lv_at hl 0 rfl) ?_
      refine lv_iload_n hx hb dX10_as_63 rfl (lv_at hl 1 rfl) ?_
      refine lv_iconst (v := 1) hx hb dX10_as_64 (by decide) ?_
      refine mw_V (As := [.int v1, .int 1]) (rest := []) (T := TX10) (N := 25) (n := 2) ⟨hx, hb, hml, hown, hts⟩ (so_X10_its l G h v1 1 M _ hw) wm_RX10_67 wi_yX10_its wv_yX10_its wn_RX10 wc_yX10_its (by decide) ⟨Nat.le_of_ble_eq_true rfl, Nat.le_of_ble_eq_true rfl⟩ ⟨rfl, rfl⟩ kh (by decide) (mk10 kh) rfl hSt hTb hP hS rfl hl.1 rfl (Nat.le_of_ble_eq_true rfl) dX10_as_65 ⟨Nat.le_refl 0, Nat.le_refl 0⟩ (fun rr_ M_2 H locs hq hP hS => ?_)
      obtain ⟨r_3, rfl, hw⟩ := hq
      exact W.iret hx hb hr (mw_end hP hSt hTb hS ⟨_, rfl, hw⟩) hS.2.2 dX10_as_68
    · have hw := hw.2 c_1
      refine lv_aload_n hx hb dX10_as_53 rfl (lv_at hl 0 rfl) ?_
      refine lv_ldc (v := (-1000000005)) hx hb hown (ht _ wk_RX10_103) dX10_as_54 ?_
      refine mw_V (As := [.int (-1000000005)]) (rest := []) (T := TX10) (N := 25) (n := 1) ⟨hx, hb, hml, hown, hts⟩ (so_X10_errs l G h (-1000000005) M _ hw) wm_RX10_63 wi_yX10_errs wv_yX10_errs wn_RX10 wc_yX10_errs (by decide) ⟨Nat.le_of_ble_eq_true rfl, Nat.le_of_ble_eq_true rfl⟩ ⟨rfl, rfl⟩ kh (by decide) (mk10 kh) rfl hSt hTb hP hS rfl hl.1 rfl (Nat.le_of_ble_eq_true rfl) dX10_as_56 ⟨Nat.le_refl 0, Nat.le_refl 0⟩ (fun rr_ M_4 H locs hq hP hS => ?_)
      obtain ⟨r_5, rfl, hw⟩ := hq
      refine lv_goto (tgt := 68) hx hb dX10_as_59 (by decide) ?_
      exact W.iret hx hb hr (mw_end hP hSt hTb hS ⟨_, rfl, hw⟩) hS.2.2 dX10_as_68
  have L_32 : ∀ (v1 : Int32) (v2 : Int32), ∀ (n32 : Nat) (v3 : Int32) (M : Mem) (H : Heap) (locs : List Loc) (ls : Array Slot), l_X10_as_32 h Q v1 v2 n32 v3 M → va_P G.2.1 clsA (wl G M) H → va_S (inW G) s.heap H locs → lv_has ls 4 [(0, .ref (G.1 + h)), (1, .int v1), (2, .int v2), (3, .int v3)] → W p l e ({ frames := 2, cells := 0, slots := 0, locals := 43 } : Room) s m ([.ref (G.1 + h), .int a1, .int a2] : List Value).toArray below meth c H locs 0 0 (MQ below (Pq G (Qi Q)) ([.ref (G.1 + h), .int a1, .int a2] : List Value).toArray s 0 0 (inW G)) (F0 m 32 ls []) := by
    intro v1 v2  n32
    induction n32 with
    | zero => intro v3 M H locs ls  hw hP hS hl; exact False.elim hw
    | succ n32 ih32 =>
      intro v3 M H locs ls  hw hP hS hl
      have hw : B_X10_as_32 h Q v1 v2 (l_X10_as_32 h Q v1 v2 n32) v3 M := hw
      unfold B_X10_as_32 at hw
      refine lv_iload_n hx hb dX10_as_32 rfl (lv_at hl 3 rfl) ?_
      refine lv_if_lt (tgt := 49) hx hb dX10_as_33 (by decide) (fun c_6 => ?_) (fun c_6 => ?_)
      · have hw := hw.1 c_6
        exact J_49 v1 v3 M _ _ _ hw hP hS (lv_sub hl [0, 1, 3] rfl)
      · have hw := hw.2 c_6
        refine lv_iload_n hx hb dX10_as_36 rfl (lv_at hl 3 rfl) ?_
        refine lv_iload_n hx hb dX10_as_37 rfl (lv_at hl 2 rfl) ?_
        refine lv_icmp_eq (tgt := 49) hx hb dX10_as_38 (by decide) (fun c_7 => ?_) (fun c_7 => ?_)
        · have hw := hw.1 c_7
          exact J_49 v1 v3 M _ _ _ hw hP hS (lv_sub hl [0, 1, 3] rfl)
        · have hw := hw.2 c_7
          refine lv_iload_n hx hb dX10_as_41 rfl (lv_at hl 3 rfl) ?_
          refine mw_Sx (As := [.int v3]) (rest := []) (n := 1) ⟨hx, hb, hml, hown, hts⟩ (so_X10_above l G v3 M _ hw) wm_RX10_100 wt_yX10_above wn_RX10 wc_yX10_above (by decide) ⟨Nat.le_of_ble_eq_true rfl, Nat.le_of_ble_eq_true rfl⟩ ⟨rfl, rfl⟩ hSt hTb hP hS rfl hl.1 rfl (Nat.le_of_ble_eq_true rfl) dX10_as_42 ⟨Nat.le_refl 0, Nat.le_refl 0⟩ (fun rr_ M_8 H locs hq hP hS => ?_)
          obtain ⟨r_9, rfl, hw⟩ := hq
          refine lv_istore_n (lv' := [(3, .int r_9), (0, .ref (G.1 + h)), (1, .int v1), (2, .int v2)]) hx hb dX10_as_45 rfl hl (by decide) rfl (fun ls hl => ?_)
          refine lv_goto (tgt := 32) hx hb dX10_as_46 (by decide) ?_
          exact ih32 r_9 M_8 _ _ _ hw hP hS (lv_sub hl [1, 2, 3, 0] rfl)
  have J_18 : ∀  (M : Mem) (H : Heap) (locs : List Loc) (ls : Array Slot), b_X10_as_18 h Q M → va_P G.2.1 clsA (wl G M) H → va_S (inW G) s.heap H locs → lv_has ls 4 [(0, .ref (G.1 + h))] → W p l e ({ frames := 2, cells := 0, slots := 0, locals := 43 } : Room) s m ([.ref (G.1 + h), .int a1, .int a2] : List Value).toArray below meth c H locs 0 0 (MQ below (Pq G (Qi Q)) ([.ref (G.1 + h), .int a1, .int a2] : List Value).toArray s 0 0 (inW G)) (F0 m 18 ls []) := by
    intro  M H locs ls  hw hP hS hl
    unfold b_X10_as_18 at hw
    refine lv_aload_n hx hb dX10_as_18 rfl (lv_at hl 0 rfl) ?_
    refine lv_ldc (v := (-1000000001)) hx hb hown (ht _ wk_RX10_62) dX10_as_19 ?_
    refine mw_V (As := [.int (-1000000001)]) (rest := []) (T := TX10) (N := 25) (n := 1) ⟨hx, hb, hml, hown, hts⟩ (so_X10_errs l G h (-1000000001) M _ hw) wm_RX10_63 wi_yX10_errs wv_yX10_errs wn_RX10 wc_yX10_errs (by decide) ⟨Nat.le_of_ble_eq_true rfl, Nat.le_of_ble_eq_true rfl⟩ ⟨rfl, rfl⟩ kh (by decide) (mk10 kh) rfl hSt hTb hP hS rfl hl.1 rfl (Nat.le_of_ble_eq_true rfl) dX10_as_21 ⟨Nat.le_refl 0, Nat.le_refl 0⟩ (fun rr_ M_10 H locs hq hP hS => ?_)
    obtain ⟨r_11, rfl, hw⟩ := hq
    exact W.iret hx hb hr (mw_end hP hSt hTb hS ⟨_, rfl, hw⟩) hS.2.2 dX10_as_24
  refine lv_aload_n hx hb dX10_as_0 rfl (lv_at hl 0 rfl) ?_
  refine lv_iload_n hx hb dX10_as_1 rfl (lv_at hl 1 rfl) ?_
  refine mw_V (As := [.int a1]) (rest := []) (T := TX10) (N := 25) (n := 1) ⟨hx, hb, hml, hown, hts⟩ (so_X10_isSheep l G h a1 M _ hw) wm_RX10_91 wi_yX10_isSheep wv_yX10_isSheep wn_RX10 wc_yX10_isSheep (by decide) ⟨Nat.le_of_ble_eq_true rfl, Nat.le_of_ble_eq_true rfl⟩ ⟨rfl, rfl⟩ kh (by decide) (mk10 kh) rfl hSt hTb hP hS rfl hl.1 rfl (Nat.le_of_ble_eq_true rfl) dX10_as_2 ⟨Nat.le_refl 0, Nat.le_refl 0⟩ (fun rr_ M_12 H locs hq hP hS => ?_)
  obtain ⟨r_13, rfl, hw⟩ := hq
  refine lv_if_eq (tgt := 18) hx hb dX10_as_5 (by decide) (fun c_14 => ?_) (fun c_14 => ?_)
  · have hw := hw.1 c_14
    exact J_18 M_12 _ _ _ hw hP hS (lv_sub hl [0] rfl)
  · have hw := hw.2 c_14
    refine lv_iload_n hx hb dX10_as_8 rfl (lv_at hl 2 rfl) ?_
    refine lv_iconst (v := 0) hx hb dX10_as_9 (by decide) ?_
    refine lv_bipush (v := 6) hx hb dX10_as_10 (by decide) ?_
    refine mw_Sx (As := [.int a2, .int 0, .int 6]) (rest := []) (n := 3) ⟨hx, hb, hml, hown, hts⟩ (so_X10_in l G a2 0 6 M_12 _ hw) wm_RX10_50 wt_yX10_in wn_RX10 wc_yX10_in (by decide) ⟨Nat.le_of_ble_eq_true rfl, Nat.le_of_ble_eq_true rfl⟩ ⟨rfl, rfl⟩ hSt hTb hP hS rfl hl.1 rfl (Nat.le_of_ble_eq_true rfl) dX10_as_12 ⟨Nat.le_refl 0, Nat.le_refl 0⟩ (fun rr_ M_15 H locs hq hP hS => ?_)
    obtain ⟨r_16, rfl, hw⟩ := hq
    refine lv_if_ne (tgt := 25) hx hb dX10_as_15 (by decide) (fun c_17 => ?_) (fun c_17 => ?_)
    · have hw := hw.1 c_17
      refine lv_aload_n hx hb dX10_as_25 rfl (lv_at hl 0 rfl) ?_
      refine lv_iload_n hx hb dX10_as_26 rfl (lv_at hl 1 rfl) ?_
      refine lv_iconst (v := 0) hx hb dX10_as_27 (by decide) ?_
      refine mw_V (As := [.int a1, .int 0]) (rest := []) (T := TX10) (N := 25) (n := 2) ⟨hx, hb, hml, hown, hts⟩ (so_X10_its l G h a1 0 M_15 _ hw) wm_RX10_67 wi_yX10_its wv_yX10_its wn_RX10 wc_yX10_its (by decide) ⟨Nat.le_of_ble_eq_true rfl, Nat.le_of_ble_eq_true rfl⟩ ⟨rfl, rfl⟩ kh (by decide) (mk10 kh) rfl hSt hTb hP hS rfl hl.1 rfl (Nat.le_of_ble_eq_true rfl) dX10_as_28 ⟨Nat.le_refl 0, Nat.le_refl 0⟩ (fun rr_ M_18 H locs hq hP hS => ?_)
      obtain ⟨r_19, rfl, hw⟩ := hq
      refine lv_istore_n (lv' := [(3, .int r_19), (0, .ref (G.1 + h)), (1, .int a1), (2, .int a2)]) hx hb dX10_as_31 rfl hl (by decide) rfl (fun ls hl => ?_)
      obtain ⟨n_, hw⟩ := hw
      exact L_32 a1 a2 n_ r_19 M_18 _ _ _ hw hP hS (lv_sub hl [1, 2, 3, 0] rfl)
    · have hw := hw.2 c_17
      exact J_18 M_15 _ _ _ hw hP hS (lv_sub hl [0] rfl)
def wp_X10_law (h : Nat) (a1 : Int32) (a2 : Int32) (a3 : Int32) (a4 : Int32) (M : Mem) (Q : Int32 → Mem → Prop) : Prop :=
  kdT h = 10 ∧ (wp_X10_in a1 0 1 M (fun r_2 M_1 => (r_2 = 0 → wp_X10_errs h (-1000000001) M_1 (fun r_5 M_4 => Q r_5 M_4)) ∧ (¬ r_2 = 0 → wp_X10_lawOf h a1 a2 a3 a4 M_1 (fun r_7 M_6 => Q r_7 M_6))))
set_option maxHeartbeats 4000000 in
set_option maxRecDepth 100000 in
theorem so_X10_law (l : Launch) (G : Gm) (h : Nat) (a1 : Int32) (a2 : Int32) (a3 : Int32) (a4 : Int32) (M : Mem) (Q : Int32 → Mem → Prop) (hw : wp_X10_law h a1 a2 a3 a4 M Q) : Ct l G yX10_law cX10_law 5 (some .int) ({ frames := 3, cells := 0, slots := 0, locals := 75 } : Room) [.ref (G.1 + h), .int a1, .int a2, .int a3, .int a4] M (Qi Q) := by
  unfold wp_X10_law at hw
  obtain ⟨kh, hw⟩ := hw
  refine ct_of (by decide) (Nat.le_of_ble_eq_true rfl) ?_
  intro p e s m below meth c E_ ls H hl hP hS
  obtain ⟨hx, hb, hml, hown, hts, ht, hr, hlocks, hSt, hTb⟩ := E_
  have hl : lv_has ls 5 [(0, .ref (G.1 + h)), (1, .int a1), (2, .int a2), (3, .int a3), (4, .int a4)] := hl
  refine lv_iload_n hx hb dX10_law_0 rfl (lv_at hl 1 rfl) ?_
  refine lv_iconst (v := 0) hx hb dX10_law_1 (by decide) ?_
  refine lv_iconst (v := 1) hx hb dX10_law_2 (by decide) ?_
  refine mw_Sx (As := [.int a1, .int 0, .int 1]) (rest := []) (n := 3) ⟨hx, hb, hml, hown, hts⟩ (so_X10_in l G a1 0 1 M _ hw) wm_RX10_50 wt_yX10_in wn_RX10 wc_yX10_in (by decide) ⟨Nat.le_of_ble_eq_true rfl, Nat.le_of_ble_eq_true rfl⟩ ⟨rfl, rfl⟩ hSt hTb hP hS rfl hl.1 rfl (Nat.le_of_ble_eq_true rfl) dX10_law_3 ⟨Nat.le_refl 0, Nat.le_refl 0⟩ (fun rr_ M_1 H locs hq hP hS => ?_)
  obtain ⟨r_2, rfl, hw⟩ := hq
  refine lv_if_eq (tgt := 21) hx hb dX10_law_6 (by decide) (fun c_3 => ?_) (fun c_3 => ?_)
  · have hw := hw.1 c_3
    refine lv_aload_n hx hb dX10_law_21 rfl (lv_at hl 0 rfl) ?_
    refine lv_ldc (v := (-1000000001)) hx hb hown (ht _ wk_RX10_62) dX10_law_22 ?_
    refine mw_V (As := [.int (-1000000001)]) (rest := []) (T := TX10) (N := 25) (n := 1) ⟨hx, hb, hml, hown, hts⟩ (so_X10_errs l G h (-1000000001) M_1 _ hw) wm_RX10_63 wi_yX10_errs wv_yX10_errs wn_RX10 wc_yX10_errs (by decide) ⟨Nat.le_of_ble_eq_true rfl, Nat.le_of_ble_eq_true rfl⟩ ⟨rfl, rfl⟩ kh (by decide) (mk10 kh) rfl hSt hTb hP hS rfl hl.1 rfl (Nat.le_of_ble_eq_true rfl) dX10_law_24 ⟨Nat.le_refl 0, Nat.le_refl 0⟩ (fun rr_ M_4 H locs hq hP hS => ?_)
    obtain ⟨r_5, rfl, hw⟩ := hq
    exact W.iret hx hb hr (mw_end hP hSt hTb hS ⟨_, rfl, hw⟩) hS.2.2 dX10_law_27
  · have hw := hw.2 c_3
    refine lv_aload_n hx hb dX10_law_9 rfl (lv_at hl 0 rfl) ?_
    refine lv_iload_n hx hb dX10_law_10 rfl (lv_at hl 1 rfl) ?_
    refine lv_iload_n hx hb dX10_law_11 rfl (lv_at hl 2 rfl) ?_
    refine lv_iload_n hx hb dX10_law_12 rfl (lv_at hl 3 rfl) ?_
    refine lv_iload hx hb dX10_law_13 (lv_at hl 4 rfl) ?_
    refine mw_V (As := [.int a1, .int a2, .int a3, .int a4]) (rest := []) (T := TX10) (N := 25) (n := 4) ⟨hx, hb, hml, hown, hts⟩ (so_X10_lawOf l G h a1 a2 a3 a4 M_1 _ hw) wm_RX10_168 wi_yX10_lawOf wv_yX10_lawOf wn_RX10 wc_yX10_lawOf (by decide) ⟨Nat.le_of_ble_eq_true rfl, Nat.le_of_ble_eq_true rfl⟩ ⟨rfl, rfl⟩ kh (by decide) (mk10 kh) rfl hSt hTb hP hS rfl hl.1 rfl (Nat.le_of_ble_eq_true rfl) dX10_law_15 ⟨Nat.le_refl 0, Nat.le_refl 0⟩ (fun rr_ M_6 H locs hq hP hS => ?_)
    obtain ⟨r_7, rfl, hw⟩ := hq
    refine lv_goto (tgt := 27) hx hb dX10_law_18 (by decide) ?_
    exact W.iret hx hb hr (mw_end hP hSt hTb hS ⟨_, rfl, hw⟩) hS.2.2 dX10_law_27
def B_X10_feed_40 (h : Nat) (Q : Int32 → Mem → Prop) (w1 : Int64) (v3 : Int32) (K40 : Int32 → Mem → Prop) (v4 : Int32) (M : Mem) : Prop :=
  (v3 ≤ v4 → Q (M (h + 1) 4) M) ∧ (¬ v3 ≤ v4 → vp_in (72 + (M (h + 1) 4)) 242 ∧ ∀ M_5, M_5 = mu M (h + 1) (72 + (M (h + 1) 4)).toNatClampNeg (((lsr' w1 (8 * v4)) &&& 255).toInt32) → ∀ M_8, M_8 = mu M_5 (h + 1) 4 ((M_5 (h + 1) 4) + 1) → ∀ x_9 : Int32, x_9 = v4 + 1 → K40 x_9 M_8)
def l_X10_feed_40 (h : Nat) (Q : Int32 → Mem → Prop) (w1 : Int64) (v3 : Int32) : Nat → Int32 → Mem → Prop
  | 0 => fun _ _ => False
  | n + 1 => B_X10_feed_40 h Q w1 v3 (l_X10_feed_40 h Q w1 v3 n)
def wp_X10_feed (h : Nat) (a1 : Int64) (a3 : Int32) (M : Mem) (Q : Int32 → Mem → Prop) : Prop :=
  kdT h = 10 ∧ (wp_X10_in a3 1 8 M (fun r_11 M_10 => (¬ r_11 = 0 → (((M_10 (h + 1) 4) + a3) ≤ 50 → ∃ n, l_X10_feed_40 h Q a1 a3 n 0 M_10) ∧ (¬ ((M_10 (h + 1) 4) + a3) ≤ 50 → wp_X10_errs h (-1000000004) M_10 (fun r_16 M_15 => Q r_16 M_15))) ∧ (r_11 = 0 → wp_X10_errs h (-1000000001) M_10 (fun r_18 M_17 => Q r_18 M_17))))
set_option maxHeartbeats 4000000 in
set_option maxRecDepth 100000 in
theorem so_X10_feed (l : Launch) (G : Gm) (h : Nat) (a1 : Int64) (a3 : Int32) (M : Mem) (Q : Int32 → Mem → Prop) (hw : wp_X10_feed h a1 a3 M Q) : Ct l G yX10_feed cX10_feed 5 (some .int) ({ frames := 1, cells := 0, slots := 0, locals := 22 } : Room) [.ref (G.1 + h), .long a1, .int a3] M (Qi Q) := by
  unfold wp_X10_feed at hw
  obtain ⟨kh, hw⟩ := hw
  refine ct_of (by decide) (Nat.le_of_ble_eq_true rfl) ?_
  intro p e s m below meth c E_ ls H hl hP hS
  obtain ⟨hx, hb, hml, hown, hts, ht, hr, hlocks, hSt, hTb⟩ := E_
  have hl : lv_has ls 5 [(0, .ref (G.1 + h)), (1, .long a1), (3, .int a3)] := hl
  have L_40 : ∀ (w1 : Int64) (v3 : Int32), ∀ (n40 : Nat) (v4 : Int32) (M : Mem) (H : Heap) (locs : List Loc) (ls : Array Slot), l_X10_feed_40 h Q w1 v3 n40 v4 M → va_P G.2.1 clsA (wl G M) H → va_S (inW G) s.heap H locs → lv_has ls 5 [(0, .ref (G.1 + h)), (1, .long w1), (3, .int v3), (4, .int v4)] → W p l e ({ frames := 1, cells := 0, slots := 0, locals := 22 } : Room) s m ([.ref (G.1 + h), .long a1, .int a3] : List Value).toArray below meth c H locs 0 0 (MQ below (Pq G (Qi Q)) ([.ref (G.1 + h), .long a1, .int a3] : List Value).toArray s 0 0 (inW G)) (F0 m 40 ls []) := by
    intro w1 v3  n40
    induction n40 with
    | zero => intro v4 M H locs ls  hw hP hS hl; exact False.elim hw
    | succ n40 ih40 =>
      intro v4 M H locs ls  hw hP hS hl
      have hw : B_X10_feed_40 h Q w1 v3 (l_X10_feed_40 h Q w1 v3 n40) v4 M := hw
      unfold B_X10_feed_40 at hw
      refine lv_iload hx hb dX10_feed_40 (lv_at hl 3 rfl) ?_
      refine lv_iload_n hx hb dX10_feed_42 rfl (lv_at hl 2 rfl) ?_
      refine lv_icmp_ge (tgt := 88) hx hb dX10_feed_43 (by decide) (fun c_1 => ?_) (fun c_1 => ?_)
      · have hw := hw.1 c_1
        refine lv_aload_n hx hb dX10_feed_88 rfl (lv_at hl 0 rfl) ?_
        refine mw_get (ci := 10) (v := .ref (G.1 + (h + 1))) (C := RX10) (T := TX10) (N := 25) hx hb ht inX10 hown hSt hP kh (by decide) (mk10 kh) rfl 0 (by decide) (ht _ wf_RX10_7) rfl rfl dX10_feed_89 ?_
        refine lv_iconst (v := 4) hx hb dX10_feed_92 (by decide) ?_
        refine mw_ialdc hx hb hSt hP (ks10_0 kh) (ln10_0 kh) 4 (by decide) dX10_feed_93 ?_
        exact W.iret hx hb hr (mw_end hP hSt hTb hS ⟨_, rfl, hw⟩) hS.2.2 dX10_feed_94
      · have hw := hw.2 c_1
        refine lv_aload_n hx hb dX10_feed_46 rfl (lv_at hl 0 rfl) ?_
        refine mw_get (ci := 10) (v := .ref (G.1 + (h + 1))) (C := RX10) (T := TX10) (N := 25) hx hb ht inX10 hown hSt hP kh (by decide) (mk10 kh) rfl 0 (by decide) (ht _ wf_RX10_7) rfl rfl dX10_feed_47 ?_
        refine lv_bipush (v := 72) hx hb dX10_feed_50 (by decide) ?_
        refine lv_aload_n hx hb dX10_feed_52 rfl (lv_at hl 0 rfl) ?_
        refine mw_get (ci := 10) (v := .ref (G.1 + (h + 1))) (C := RX10) (T := TX10) (N := 25) hx hb ht inX10 hown hSt hP kh (by decide) (mk10 kh) rfl 0 (by decide) (ht _ wf_RX10_7) rfl rfl dX10_feed_53 ?_
        refine lv_iconst (v := 4) hx hb dX10_feed_56 (by decide) ?_
        refine mw_ialdc hx hb hSt hP (ks10_0 kh) (ln10_0 kh) 4 (by decide) dX10_feed_57 ?_
        refine lv_iadd hx hb dX10_feed_58 ?_
        refine lv_lload_n hx hb dX10_feed_59 rfl (lv_at hl 1 rfl) ?_
        refine lv_bipush (v := 8) hx hb dX10_feed_60 (by decide) ?_
        refine lv_iload hx hb dX10_feed_62 (lv_at hl 3 rfl) ?_
        refine lv_imul hx hb dX10_feed_64 ?_
        refine lv_lshr (v := lsr' w1 (8 * v4)) hx hb dX10_feed_65 rfl ?_
        refine lv_ldc2 (v := 255) hx hb hown (ht _ wk_RX10_171) dX10_feed_66 ?_
        refine lv_land hx hb dX10_feed_69 ?_
        refine lv_l2i (v := ((lsr' w1 (8 * v4)) &&& 255).toInt32) hx hb dX10_feed_70 rfl ?_
        obtain ⟨c_4, hw⟩ := hw
        refine mw_iast hx hb hSt hP hS (ks10_0 kh) (by rw [(ln10_0 kh)]; exact c_4) dX10_feed_71 (fun M_5 H locs eM_5 hP hS => ?_)
        have hw := hw M_5 eM_5
        refine lv_aload_n hx hb dX10_feed_72 rfl (lv_at hl 0 rfl) ?_
        refine mw_get (ci := 10) (v := .ref (G.1 + (h + 1))) (C := RX10) (T := TX10) (N := 25) hx hb ht inX10 hown hSt hP kh (by decide) (mk10 kh) rfl 0 (by decide) (ht _ wf_RX10_7) rfl rfl dX10_feed_73 ?_
        refine lv_iconst (v := 4) hx hb dX10_feed_76 (by decide) ?_
        refine lv_dup2_11 hx hb dX10_feed_77 rfl rfl ?_
        refine mw_ialdc hx hb hSt hP (ks10_0 kh) (ln10_0 kh) 4 (by decide) dX10_feed_78 ?_
        refine lv_iconst (v := 1) hx hb dX10_feed_79 (by decide) ?_
        refine lv_iadd hx hb dX10_feed_80 ?_
        refine mw_iastc hx hb hSt hP hS (ks10_0 kh) (ln10_0 kh) 4 (by decide) dX10_feed_81 (fun M_8 H locs eM_8 hP hS => ?_)
        have hw := hw M_8 eM_8
        obtain ⟨x_9, ex_9⟩ : ∃ z : Int32, z = v4 + 1 := ⟨_, rfl⟩
        have hw := hw x_9 ex_9
        refine lv_iinc (v := x_9) (lv' := [(4, .int x_9), (0, .ref (G.1 + h)), (1, .long w1), (3, .int v3)]) hx hb dX10_feed_82 hl (k := 3) rfl (by rw [ex_9]; rfl) (by decide) rfl (fun ls hl => ?_)
        refine lv_goto (tgt := 40) hx hb dX10_feed_85 (by decide) ?_
        exact ih40 x_9 M_8 _ _ _ hw hP hS (lv_sub hl [1, 2, 3, 0] rfl)
  refine lv_iload_n hx hb dX10_feed_0 rfl (lv_at hl 2 rfl) ?_
  refine lv_iconst (v := 1) hx hb dX10_feed_1 (by decide) ?_
  refine lv_bipush (v := 8) hx hb dX10_feed_2 (by decide) ?_
  refine mw_Sx (As := [.int a3, .int 1, .int 8]) (rest := []) (n := 3) ⟨hx, hb, hml, hown, hts⟩ (so_X10_in l G a3 1 8 M _ hw) wm_RX10_50 wt_yX10_in wn_RX10 wc_yX10_in (by decide) ⟨Nat.le_of_ble_eq_true rfl, Nat.le_of_ble_eq_true rfl⟩ ⟨rfl, rfl⟩ hSt hTb hP hS rfl hl.1 rfl (Nat.le_of_ble_eq_true rfl) dX10_feed_4 ⟨Nat.le_refl 0, Nat.le_refl 0⟩ (fun rr_ M_10 H locs hq hP hS => ?_)
  obtain ⟨r_11, rfl, hw⟩ := hq
  refine lv_if_ne (tgt := 17) hx hb dX10_feed_7 (by decide) (fun c_12 => ?_) (fun c_12 => ?_)
  · have hw := hw.1 c_12
    refine lv_aload_n hx hb dX10_feed_17 rfl (lv_at hl 0 rfl) ?_
    refine mw_get (ci := 10) (v := .ref (G.1 + (h + 1))) (C := RX10) (T := TX10) (N := 25) hx hb ht inX10 hown hSt hP kh (by decide) (mk10 kh) rfl 0 (by decide) (ht _ wf_RX10_7) rfl rfl dX10_feed_18 ?_
    refine lv_iconst (v := 4) hx hb dX10_feed_21 (by decide) ?_
    refine mw_ialdc hx hb hSt hP (ks10_0 kh) (ln10_0 kh) 4 (by decide) dX10_feed_22 ?_
    refine lv_iload_n hx hb dX10_feed_23 rfl (lv_at hl 2 rfl) ?_
    refine lv_iadd hx hb dX10_feed_24 ?_
    refine lv_bipush (v := 50) hx hb dX10_feed_25 (by decide) ?_
    refine lv_icmp_le (tgt := 37) hx hb dX10_feed_27 (by decide) (fun c_14 => ?_) (fun c_14 => ?_)
    · have hw := hw.1 c_14
      refine lv_iconst (v := 0) hx hb dX10_feed_37 (by decide) ?_
      refine lv_istore (lv' := [(4, .int 0), (0, .ref (G.1 + h)), (1, .long a1), (3, .int a3)]) hx hb dX10_feed_38 hl (by decide) rfl (fun ls hl => ?_)
      obtain ⟨n_, hw⟩ := hw
      exact L_40 a1 a3 n_ 0 M_10 _ _ _ hw hP hS (lv_sub hl [1, 2, 3, 0] rfl)
    · have hw := hw.2 c_14
      refine lv_aload_n hx hb dX10_feed_30 rfl (lv_at hl 0 rfl) ?_
      refine lv_ldc (v := (-1000000004)) hx hb hown (ht _ wk_RX10_77) dX10_feed_31 ?_
      refine mw_V (As := [.int (-1000000004)]) (rest := []) (T := TX10) (N := 25) (n := 1) ⟨hx, hb, hml, hown, hts⟩ (so_X10_errs l G h (-1000000004) M_10 _ hw) wm_RX10_63 wi_yX10_errs wv_yX10_errs wn_RX10 wc_yX10_errs (by decide) ⟨Nat.le_of_ble_eq_true rfl, Nat.le_of_ble_eq_true rfl⟩ ⟨rfl, rfl⟩ kh (by decide) (mk10 kh) rfl hSt hTb hP hS rfl hl.1 rfl (Nat.le_of_ble_eq_true rfl) dX10_feed_33 ⟨Nat.le_refl 0, Nat.le_refl 0⟩ (fun rr_ M_15 H locs hq hP hS => ?_)
      obtain ⟨r_16, rfl, hw⟩ := hq
      exact W.iret hx hb hr (mw_end hP hSt hTb hS ⟨_, rfl, hw⟩) hS.2.2 dX10_feed_36
  · have hw := hw.2 c_12
    refine lv_aload_n hx hb dX10_feed_10 rfl (lv_at hl 0 rfl) ?_
    refine lv_ldc (v := (-1000000001)) hx hb hown (ht _ wk_RX10_62) dX10_feed_11 ?_
    refine mw_V (As := [.int (-1000000001)]) (rest := []) (T := TX10) (N := 25) (n := 1) ⟨hx, hb, hml, hown, hts⟩ (so_X10_errs l G h (-1000000001) M_10 _ hw) wm_RX10_63 wi_yX10_errs wv_yX10_errs wn_RX10 wc_yX10_errs (by decide) ⟨Nat.le_of_ble_eq_true rfl, Nat.le_of_ble_eq_true rfl⟩ ⟨rfl, rfl⟩ kh (by decide) (mk10 kh) rfl hSt hTb hP hS rfl hl.1 rfl (Nat.le_of_ble_eq_true rfl) dX10_feed_13 ⟨Nat.le_refl 0, Nat.le_refl 0⟩ (fun rr_ M_17 H locs hq hP hS => ?_)
    obtain ⟨r_18, rfl, hw⟩ := hq
    exact W.iret hx hb hr (mw_end hP hSt hTb hS ⟨_, rfl, hw⟩) hS.2.2 dX10_feed_16
def wp_X10_adds (h : Nat) (a1 : Int32) (M : Mem) (Q : Mem → Prop) : Prop :=
  kdT h = 10 ∧ (((M h 11) = 0 → Q M) ∧ (¬ (M h 11) = 0 → vp_in (M h 10) 50 ∧ ∀ M_3, M_3 = mu M (h + 5) (M h 10).toNatClampNeg a1 → ∀ M_4, M_4 = mu M_3 h 10 ((M_3 h 10) + 1) → Q M_4))
set_option maxHeartbeats 4000000 in
set_option maxRecDepth 100000 in
theorem so_X10_adds (l : Launch) (G : Gm) (h : Nat) (a1 : Int32) (M : Mem) (Q : Mem → Prop) (hw : wp_X10_adds h a1 M Q) : Ct l G yX10_adds cX10_adds 2 none ({ frames := 0, cells := 0, slots := 0, locals := 0 } : Room) [.ref (G.1 + h), .int a1] M (Qv Q) := by
  unfold wp_X10_adds at hw
  obtain ⟨kh, hw⟩ := hw
  refine ct_of (by decide) (Nat.le_of_ble_eq_true rfl) ?_
  intro p e s m below meth c E_ ls H hl hP hS
  obtain ⟨hx, hb, hml, hown, hts, ht, hr, hlocks, hSt, hTb⟩ := E_
  have hl : lv_has ls 2 [(0, .ref (G.1 + h)), (1, .int a1)] := hl
  refine lv_aload_n hx hb dX10_adds_0 rfl (lv_at hl 0 rfl) ?_
  refine mw_get (ci := 10) (v := .int (M h 11)) (C := RX10) (T := TX10) (N := 25) hx hb ht inX10 hown hSt hP kh (by decide) (mk10 kh) rfl 11 (by decide) (ht _ wf_RX10_108) rfl rfl dX10_adds_1 ?_
  refine lv_if_eq (tgt := 27) hx hb dX10_adds_4 (by decide) (fun c_1 => ?_) (fun c_1 => ?_)
  · have hw := hw.1 c_1
    exact W.vret hx hb hr (mw_end hP hSt hTb hS ⟨rfl, hw⟩) hS.2.2 dX10_adds_27
  · have hw := hw.2 c_1
    refine lv_aload_n hx hb dX10_adds_7 rfl (lv_at hl 0 rfl) ?_
    refine mw_get (ci := 10) (v := .ref (G.1 + (h + 5))) (C := RX10) (T := TX10) (N := 25) hx hb ht inX10 hown hSt hP kh (by decide) (mk10 kh) rfl 12 (by decide) (ht _ wf_RX10_22) rfl rfl dX10_adds_8 ?_
    refine lv_aload_n hx hb dX10_adds_11 rfl (lv_at hl 0 rfl) ?_
    refine mw_get (ci := 10) (v := .int (M h 10)) (C := RX10) (T := TX10) (N := 25) hx hb ht inX10 hown hSt hP kh (by decide) (mk10 kh) rfl 10 (by decide) (ht _ wf_RX10_112) rfl rfl dX10_adds_12 ?_
    refine lv_iload_n hx hb dX10_adds_15 rfl (lv_at hl 1 rfl) ?_
    obtain ⟨c_2, hw⟩ := hw
    refine mw_iast hx hb hSt hP hS (ks10_12 kh) (by rw [(ln10_12 kh)]; exact c_2) dX10_adds_16 (fun M_3 H locs eM_3 hP hS => ?_)
    have hw := hw M_3 eM_3
    refine lv_aload_n hx hb dX10_adds_17 rfl (lv_at hl 0 rfl) ?_
    refine lv_dup hx hb dX10_adds_18 rfl ?_
    refine mw_get (ci := 10) (v := .int (M_3 h 10)) (C := RX10) (T := TX10) (N := 25) hx hb ht inX10 hown hSt hP kh (by decide) (mk10 kh) rfl 10 (by decide) (ht _ wf_RX10_112) rfl rfl dX10_adds_19 ?_
    refine lv_iconst (v := 1) hx hb dX10_adds_22 (by decide) ?_
    refine lv_iadd hx hb dX10_adds_23 ?_
    refine mw_put (ci := 10) (v := (M_3 h 10) + 1) (ty := .int) (C := RX10) (T := TX10) (N := 25) hx hb ht inX10 tyX10 tyX10_ok nmX10 hown hSt hP hS kh (by decide) (mk10 kh) rfl 10 (by decide) (ht _ wf_RX10_112) rfl rfl (by decide +kernel) (vp_nar_int _) rfl (Nat.le_of_ble_eq_true rfl) (by rw [mk10 kh]; simp [mu]) dX10_adds_24 (fun M_4 H locs eM_4 hP hS => ?_)
    have hw := hw M_4 eM_4
    exact W.vret hx hb hr (mw_end hP hSt hTb hS ⟨rfl, hw⟩) hS.2.2 dX10_adds_27
def wp_X10_byteAt (h : Nat) (a1 : Int32) (M : Mem) (Q : Int32 → Mem → Prop) : Prop :=
  kdT h = 10 ∧ (((M h 8) ≤ a1 → Q (-1) M) ∧ (¬ (M h 8) ≤ a1 → vp_in (72 + a1) 242 ∧ (Q (M (h + 1) (72 + a1).toNatClampNeg) M)))
set_option maxHeartbeats 4000000 in
set_option maxRecDepth 100000 in
theorem so_X10_byteAt (l : Launch) (G : Gm) (h : Nat) (a1 : Int32) (M : Mem) (Q : Int32 → Mem → Prop) (hw : wp_X10_byteAt h a1 M Q) : Ct l G yX10_byteAt cX10_byteAt 2 (some .int) ({ frames := 0, cells := 0, slots := 0, locals := 0 } : Room) [.ref (G.1 + h), .int a1] M (Qi Q) := by
  unfold wp_X10_byteAt at hw
  obtain ⟨kh, hw⟩ := hw
  refine ct_of (by decide) (Nat.le_of_ble_eq_true rfl) ?_
  intro p e s m below meth c E_ ls H hl hP hS
  obtain ⟨hx, hb, hml, hown, hts, ht, hr, hlocks, hSt, hTb⟩ := E_
  have hl : lv_has ls 2 [(0, .ref (G.1 + h)), (1, .int a1)] := hl
  refine lv_iload_n hx hb dX10_byteAt_0 rfl (lv_at hl 1 rfl) ?_
  refine lv_aload_n hx hb dX10_byteAt_1 rfl (lv_at hl 0 rfl) ?_
  refine mw_get (ci := 10) (v := .int (M h 8)) (C := RX10) (T := TX10) (N := 25) hx hb ht inX10 hown hSt hP kh (by decide) (mk10 kh) rfl 8 (by decide) (ht _ wf_RX10_104) rfl rfl dX10_byteAt_2 ?_
  refine lv_icmp_ge (tgt := 20) hx hb dX10_byteAt_5 (by decide) (fun c_1 => ?_) (fun c_1 => ?_)
  · have hw := hw.1 c_1
    refine lv_iconst (v := (-1)) hx hb dX10_byteAt_20 (by decide) ?_
    exact W.iret hx hb hr (mw_end hP hSt hTb hS ⟨_, rfl, hw⟩) hS.2.2 dX10_byteAt_21
  · have hw := hw.2 c_1
    refine lv_aload_n hx hb dX10_byteAt_8 rfl (lv_at hl 0 rfl) ?_
    refine mw_get (ci := 10) (v := .ref (G.1 + (h + 1))) (C := RX10) (T := TX10) (N := 25) hx hb ht inX10 hown hSt hP kh (by decide) (mk10 kh) rfl 0 (by decide) (ht _ wf_RX10_7) rfl rfl dX10_byteAt_9 ?_
    refine lv_bipush (v := 72) hx hb dX10_byteAt_12 (by decide) ?_
    refine lv_iload_n hx hb dX10_byteAt_14 rfl (lv_at hl 1 rfl) ?_
    refine lv_iadd hx hb dX10_byteAt_15 ?_
    obtain ⟨c_2, hw⟩ := hw
    refine mw_iald hx hb hSt hP (ks10_0 kh) (by rw [(ln10_0 kh)]; exact c_2) dX10_byteAt_16 ?_
    refine lv_goto (tgt := 21) hx hb dX10_byteAt_17 (by decide) ?_
    exact W.iret hx hb hr (mw_end hP hSt hTb hS ⟨_, rfl, hw⟩) hS.2.2 dX10_byteAt_21
def wp_X10_isDigit (a0 : Int32) (M : Mem) (Q : Int32 → Mem → Prop) : Prop :=
  wp_X10_in a0 48 57 M (fun r_2 M_1 => isb r_2 ∧ Q r_2 M_1)
set_option maxHeartbeats 4000000 in
set_option maxRecDepth 100000 in
theorem so_X10_isDigit (l : Launch) (G : Gm) (a0 : Int32) (M : Mem) (Q : Int32 → Mem → Prop) (hw : wp_X10_isDigit a0 M Q) : Ct l G yX10_isDigit cX10_isDigit 1 (some .boolean) ({ frames := 1, cells := 0, slots := 0, locals := 22 } : Room) [.int a0] M (Qi Q) := by
  unfold wp_X10_isDigit at hw
  refine ct_of (by decide) (Nat.le_of_ble_eq_true rfl) ?_
  intro p e s m below meth c E_ ls H hl hP hS
  obtain ⟨hx, hb, hml, hown, hts, ht, hr, hlocks, hSt, hTb⟩ := E_
  have hl : lv_has ls 1 [(0, .int a0)] := hl
  refine lv_iload_n hx hb dX10_isDigit_0 rfl (lv_at hl 0 rfl) ?_
  refine lv_bipush (v := 48) hx hb dX10_isDigit_1 (by decide) ?_
  refine lv_bipush (v := 57) hx hb dX10_isDigit_3 (by decide) ?_
  refine mw_Sx (As := [.int a0, .int 48, .int 57]) (rest := []) (n := 3) ⟨hx, hb, hml, hown, hts⟩ (so_X10_in l G a0 48 57 M _ hw) wm_RX10_50 wt_yX10_in wn_RX10 wc_yX10_in (by decide) ⟨Nat.le_of_ble_eq_true rfl, Nat.le_of_ble_eq_true rfl⟩ ⟨rfl, rfl⟩ hSt hTb hP hS rfl hl.1 rfl (Nat.le_of_ble_eq_true rfl) dX10_isDigit_5 ⟨Nat.le_refl 0, Nat.le_refl 0⟩ (fun rr_ M_1 H locs hq hP hS => ?_)
  obtain ⟨r_2, rfl, hw⟩ := hq
  obtain ⟨c_3, hw⟩ := hw
  exact W.zret hx hb hr c_3.narrow (mw_end hP hSt hTb hS ⟨_, rfl, hw⟩) hS.2.2 dX10_isDigit_8
def b_X10_named_133 (h : Nat) (Q : Mem → Prop) (s0 : Nat) (s1 : Int32) (s2 : Int32) (M : Mem) : Prop :=
  wp_X10_adds s0 (s1 + s2) M (fun M_1 => Q M_1)
def b_X10_named_92 (h : Nat) (Q : Mem → Prop) (v2 : Int32) (v3 : Int32) (s0 : Nat) (s1 : Int32) (M : Mem) : Prop :=
  isb s1 ∧ ∀ M_2, M_2 = mu M s0 11 s1 → ((M_2 h 11) = 0 → Q M_2) ∧ (¬ (M_2 h 11) = 0 → ∀ M_5, M_5 = mu M_2 h 7 ((M_2 h 7) + 1) → (v2 = 0 → (v3 = 0 → b_X10_named_133 h Q h 10000 2 M_5) ∧ (¬ v3 = 0 → b_X10_named_133 h Q h 10000 1 M_5)) ∧ (¬ v2 = 0 → b_X10_named_133 h Q h 10000 0 M_5))
def b_X10_named_87 (h : Nat) (Q : Mem → Prop) (v2 : Int32) (v3 : Int32) (s0 : Nat) (M : Mem) : Prop :=
  b_X10_named_92 h Q v2 v3 s0 1 M
def b_X10_named_71 (h : Nat) (Q : Mem → Prop) (v2 : Int32) (v3 : Int32) (s0 : Int32) (M : Mem) : Prop :=
  (¬ v2 = 0 → b_X10_named_87 h Q v2 v3 h M) ∧ (v2 = 0 → (¬ v3 = 0 → b_X10_named_87 h Q v2 v3 h M) ∧ (v3 = 0 → (s0 = 0 → b_X10_named_92 h Q v2 v3 h 0 M) ∧ (¬ s0 = 0 → b_X10_named_87 h Q v2 v3 h M)))
def b_X10_named_63 (h : Nat) (Q : Mem → Prop) (v2 : Int32) (v3 : Int32) (s0 : Int32) (s1 : Int32) (M : Mem) : Prop :=
  (¬ s0 = s1 → b_X10_named_71 h Q v2 v3 0 M) ∧ (s0 = s1 → b_X10_named_71 h Q v2 v3 1 M)
def b_X10_named_47 (h : Nat) (Q : Mem → Prop) (v1 : Int32) (v2 : Int32) (s0 : Int32) (M : Mem) : Prop :=
  (¬ (M h 6) = 0 → b_X10_named_63 h Q v2 s0 v1 109 M) ∧ ((M h 6) = 0 → b_X10_named_63 h Q v2 s0 v1 104 M)
def b_X10_named_39 (h : Nat) (Q : Mem → Prop) (v1 : Int32) (v2 : Int32) (s0 : Int32) (s1 : Int32) (M : Mem) : Prop :=
  (¬ s0 = s1 → b_X10_named_47 h Q v1 v2 0 M) ∧ (s0 = s1 → b_X10_named_47 h Q v1 v2 1 M)
def b_X10_named_23 (h : Nat) (Q : Mem → Prop) (v1 : Int32) (s0 : Int32) (M : Mem) : Prop :=
  (¬ (M h 6) = 0 → b_X10_named_39 h Q v1 s0 v1 119 M) ∧ ((M h 6) = 0 → b_X10_named_39 h Q v1 s0 v1 115 M)
def b_X10_named_15 (h : Nat) (Q : Mem → Prop) (v1 : Int32) (s0 : Int32) (s1 : Int32) (M : Mem) : Prop :=
  (¬ s0 = s1 → b_X10_named_23 h Q v1 0 M) ∧ (s0 = s1 → b_X10_named_23 h Q v1 1 M)
def wp_X10_named (h : Nat) (a1 : Int32) (M : Mem) (Q : Mem → Prop) : Prop :=
  kdT h = 10 ∧ ((¬ (M h 6) = 0 → b_X10_named_15 h Q a1 a1 100 M) ∧ ((M h 6) = 0 → b_X10_named_15 h Q a1 a1 99 M))
set_option maxHeartbeats 4000000 in
set_option maxRecDepth 100000 in
theorem so_X10_named (l : Launch) (G : Gm) (h : Nat) (a1 : Int32) (M : Mem) (Q : Mem → Prop) (hw : wp_X10_named h a1 M Q) : Ct l G yX10_named cX10_named 5 none ({ frames := 1, cells := 0, slots := 0, locals := 21 } : Room) [.ref (G.1 + h), .int a1] M (Qv Q) := by
  unfold wp_X10_named at hw
  obtain ⟨kh, hw⟩ := hw
  refine ct_of (by decide) (Nat.le_of_ble_eq_true rfl) ?_
  intro p e s m below meth c E_ ls H hl hP hS
  obtain ⟨hx, hb, hml, hown, hts, ht, hr, hlocks, hSt, hTb⟩ := E_
  have hl : lv_has ls 5 [(0, .ref (G.1 + h)), (1, .int a1)] := hl
  have J_133 : ∀ (s0 : Nat) (s1 : Int32) (s2 : Int32) (M : Mem) (H : Heap) (locs : List Loc) (ls : Array Slot), kdT s0 = 10 → b_X10_named_133 h Q s0 s1 s2 M → va_P G.2.1 clsA (wl G M) H → va_S (inW G) s.heap H locs → lv_has ls 5 [(0, .ref (G.1 + h))] → W p l e ({ frames := 1, cells := 0, slots := 0, locals := 21 } : Room) s m ([.ref (G.1 + h), .int a1] : List Value).toArray below meth c H locs 0 0 (MQ below (Pq G (Qv Q)) ([.ref (G.1 + h), .int a1] : List Value).toArray s 0 0 (inW G)) (F0 m 133 ls [.int s2, .int s1, .ref (G.1 + s0)]) := by
    intro s0 s1 s2 M H locs ls ks0 hw hP hS hl
    unfold b_X10_named_133 at hw
    refine lv_iadd hx hb dX10_named_133 ?_
    refine mw_V (As := [.int (s1 + s2)]) (rest := []) (T := TX10) (N := 25) (n := 1) ⟨hx, hb, hml, hown, hts⟩ (so_X10_adds l G s0 (s1 + s2) M _ hw) wm_RX10_123 wi_yX10_adds wv_yX10_adds wn_RX10 wc_yX10_adds (by decide) ⟨Nat.le_of_ble_eq_true rfl, Nat.le_of_ble_eq_true rfl⟩ ⟨rfl, rfl⟩ ks0 (by decide) (mk10 ks0) rfl hSt hTb hP hS rfl hl.1 rfl (Nat.le_of_ble_eq_true rfl) dX10_named_134 ⟨Nat.le_refl 0, Nat.le_refl 0⟩ (fun rr_ M_1 H locs hq hP hS => ?_)
    obtain ⟨rfl, hw⟩ := hq
    exact W.vret hx hb hr (mw_end hP hSt hTb hS ⟨rfl, hw⟩) hS.2.2 dX10_named_137
  have J_92 : ∀ (v2 : Int32) (v3 : Int32) (s0 : Nat) (s1 : Int32) (M : Mem) (H : Heap) (locs : List Loc) (ls : Array Slot), kdT s0 = 10 → b_X10_named_92 h Q v2 v3 s0 s1 M → va_P G.2.1 clsA (wl G M) H → va_S (inW G) s.heap H locs → lv_has ls 5 [(0, .ref (G.1 + h)), (2, .int v2), (3, .int v3)] → W p l e ({ frames := 1, cells := 0, slots := 0, locals := 21 } : Room) s m ([.ref (G.1 + h), .int a1] : List Value).toArray below meth c H locs 0 0 (MQ below (Pq G (Qv Q)) ([.ref (G.1 + h), .int a1] : List Value).toArray s 0 0 (inW G)) (F0 m 92 ls [.int s1, .ref (G.1 + s0)]) := by
    intro v2 v3 s0 s1 M H locs ls ks0 hw hP hS hl
    unfold b_X10_named_92 at hw
    obtain ⟨c_3, hw⟩ := hw
    refine mw_put (ci := 10) (v := s1) (ty := .boolean) (C := RX10) (T := TX10) (N := 25) hx hb ht inX10 tyX10 tyX10_ok nmX10 hown hSt hP hS ks0 (by decide) (mk10 ks0) rfl 11 (by decide) (ht _ wf_RX10_108) rfl rfl (by decide +kernel) c_3.narrow c_3.fits (Nat.le_of_ble_eq_true rfl) (by rw [mk10 ks0]; simp [mu]) dX10_named_92 (fun M_2 H locs eM_2 hP hS => ?_)
    have hw := hw M_2 eM_2
    refine lv_aload_n hx hb dX10_named_95 rfl (lv_at hl 0 rfl) ?_
    refine mw_get (ci := 10) (v := .int (M_2 h 11)) (C := RX10) (T := TX10) (N := 25) hx hb ht inX10 hown hSt hP kh (by decide) (mk10 kh) rfl 11 (by decide) (ht _ wf_RX10_108) rfl rfl dX10_named_96 ?_
    refine lv_if_eq (tgt := 137) hx hb dX10_named_99 (by decide) (fun c_4 => ?_) (fun c_4 => ?_)
    · have hw := hw.1 c_4
      exact W.vret hx hb hr (mw_end hP hSt hTb hS ⟨rfl, hw⟩) hS.2.2 dX10_named_137
    · have hw := hw.2 c_4
      refine lv_aload_n hx hb dX10_named_102 rfl (lv_at hl 0 rfl) ?_
      refine lv_dup hx hb dX10_named_103 rfl ?_
      refine mw_get (ci := 10) (v := .int (M_2 h 7)) (C := RX10) (T := TX10) (N := 25) hx hb ht inX10 hown hSt hP kh (by decide) (mk10 kh) rfl 7 (by decide) (ht _ wf_RX10_115) rfl rfl dX10_named_104 ?_
      refine lv_iconst (v := 1) hx hb dX10_named_107 (by decide) ?_
      refine lv_iadd hx hb dX10_named_108 ?_
      refine mw_put (ci := 10) (v := (M_2 h 7) + 1) (ty := .int) (C := RX10) (T := TX10) (N := 25) hx hb ht inX10 tyX10 tyX10_ok nmX10 hown hSt hP hS kh (by decide) (mk10 kh) rfl 7 (by decide) (ht _ wf_RX10_115) rfl rfl (by decide +kernel) (vp_nar_int _) rfl (Nat.le_of_ble_eq_true rfl) (by rw [mk10 kh]; simp [mu]) dX10_named_109 (fun M_5 H locs eM_5 hP hS => ?_)
      have hw := hw M_5 eM_5
      refine lv_aload_n hx hb dX10_named_112 rfl (lv_at hl 0 rfl) ?_
      refine lv_sipush (v := 10000) hx hb dX10_named_113 (by decide) ?_
      refine lv_iload_n hx hb dX10_named_116 rfl (lv_at hl 1 rfl) ?_
      refine lv_if_eq (tgt := 124) hx hb dX10_named_117 (by decide) (fun c_6 => ?_) (fun c_6 => ?_)
      · have hw := hw.1 c_6
        refine lv_iload_n hx hb dX10_named_124 rfl (lv_at hl 2 rfl) ?_
        refine lv_if_eq (tgt := 132) hx hb dX10_named_125 (by decide) (fun c_7 => ?_) (fun c_7 => ?_)
        · have hw := hw.1 c_7
          refine lv_iconst (v := 2) hx hb dX10_named_132 (by decide) ?_
          exact J_133 h 10000 2 M_5 _ _ _ kh hw hP hS (lv_sub hl [0] rfl)
        · have hw := hw.2 c_7
          refine lv_iconst (v := 1) hx hb dX10_named_128 (by decide) ?_
          refine lv_goto (tgt := 133) hx hb dX10_named_129 (by decide) ?_
          exact J_133 h 10000 1 M_5 _ _ _ kh hw hP hS (lv_sub hl [0] rfl)
      · have hw := hw.2 c_6
        refine lv_iconst (v := 0) hx hb dX10_named_120 (by decide) ?_
        refine lv_goto (tgt := 133) hx hb dX10_named_121 (by decide) ?_
        exact J_133 h 10000 0 M_5 _ _ _ kh hw hP hS (lv_sub hl [0] rfl)
  have J_87 : ∀ (v2 : Int32) (v3 : Int32) (s0 : Nat) (M : Mem) (H : Heap) (locs : List Loc) (ls : Array Slot), kdT s0 = 10 → b_X10_named_87 h Q v2 v3 s0 M → va_P G.2.1 clsA (wl G M) H → va_S (inW G) s.heap H locs → lv_has ls 5 [(0, .ref (G.1 + h)), (2, .int v2), (3, .int v3)] → W p l e ({ frames := 1, cells := 0, slots := 0, locals := 21 } : Room) s m ([.ref (G.1 + h), .int a1] : List Value).toArray below meth c H locs 0 0 (MQ below (Pq G (Qv Q)) ([.ref (G.1 + h), .int a1] : List Value).toArray s 0 0 (inW G)) (F0 m 87 ls [.ref (G.1 + s0)]) := by
    intro v2 v3 s0 M H locs ls ks0 hw hP hS hl
    unfold b_X10_named_87 at hw
    refine lv_iconst (v := 1) hx hb dX10_named_87 (by decide) ?_
    refine lv_goto (tgt := 92) hx hb dX10_named_88 (by decide) ?_
    exact J_92 v2 v3 s0 1 M _ _ _ ks0 hw hP hS (lv_sub hl [0, 1, 2] rfl)
  have J_71 : ∀ (v2 : Int32) (v3 : Int32) (s0 : Int32) (M : Mem) (H : Heap) (locs : List Loc) (ls : Array Slot), b_X10_named_71 h Q v2 v3 s0 M → va_P G.2.1 clsA (wl G M) H → va_S (inW G) s.heap H locs → lv_has ls 5 [(0, .ref (G.1 + h)), (2, .int v2), (3, .int v3)] → W p l e ({ frames := 1, cells := 0, slots := 0, locals := 21 } : Room) s m ([.ref (G.1 + h), .int a1] : List Value).toArray below meth c H locs 0 0 (MQ below (Pq G (Qv Q)) ([.ref (G.1 + h), .int a1] : List Value).toArray s 0 0 (inW G)) (F0 m 71 ls [.int s0]) := by
    intro v2 v3 s0 M H locs ls  hw hP hS hl
    unfold b_X10_named_71 at hw
    refine lv_istore (lv' := [(4, .int s0), (0, .ref (G.1 + h)), (2, .int v2), (3, .int v3)]) hx hb dX10_named_71 hl (by decide) rfl (fun ls hl => ?_)
    refine lv_aload_n hx hb dX10_named_73 rfl (lv_at hl 1 rfl) ?_
    refine lv_iload_n hx hb dX10_named_74 rfl (lv_at hl 2 rfl) ?_
    refine lv_if_ne (tgt := 87) hx hb dX10_named_75 (by decide) (fun c_8 => ?_) (fun c_8 => ?_)
    · have hw := hw.1 c_8
      exact J_87 v2 v3 h M _ _ _ kh hw hP hS (lv_sub hl [1, 2, 3] rfl)
    · have hw := hw.2 c_8
      refine lv_iload_n hx hb dX10_named_78 rfl (lv_at hl 3 rfl) ?_
      refine lv_if_ne (tgt := 87) hx hb dX10_named_79 (by decide) (fun c_9 => ?_) (fun c_9 => ?_)
      · have hw := hw.1 c_9
        exact J_87 v2 v3 h M _ _ _ kh hw hP hS (lv_sub hl [1, 2, 3] rfl)
      · have hw := hw.2 c_9
        refine lv_iload hx hb dX10_named_82 (lv_at hl 0 rfl) ?_
        refine lv_if_eq (tgt := 91) hx hb dX10_named_84 (by decide) (fun c_10 => ?_) (fun c_10 => ?_)
        · have hw := hw.1 c_10
          refine lv_iconst (v := 0) hx hb dX10_named_91 (by decide) ?_
          exact J_92 v2 v3 h 0 M _ _ _ kh hw hP hS (lv_sub hl [1, 2, 3] rfl)
        · have hw := hw.2 c_10
          exact J_87 v2 v3 h M _ _ _ kh hw hP hS (lv_sub hl [1, 2, 3] rfl)
  have J_63 : ∀ (v2 : Int32) (v3 : Int32) (s0 : Int32) (s1 : Int32) (M : Mem) (H : Heap) (locs : List Loc) (ls : Array Slot), b_X10_named_63 h Q v2 v3 s0 s1 M → va_P G.2.1 clsA (wl G M) H → va_S (inW G) s.heap H locs → lv_has ls 5 [(0, .ref (G.1 + h)), (2, .int v2), (3, .int v3)] → W p l e ({ frames := 1, cells := 0, slots := 0, locals := 21 } : Room) s m ([.ref (G.1 + h), .int a1] : List Value).toArray below meth c H locs 0 0 (MQ below (Pq G (Qv Q)) ([.ref (G.1 + h), .int a1] : List Value).toArray s 0 0 (inW G)) (F0 m 63 ls [.int s1, .int s0]) := by
    intro v2 v3 s0 s1 M H locs ls  hw hP hS hl
    unfold b_X10_named_63 at hw
    refine lv_icmp_ne (tgt := 70) hx hb dX10_named_63 (by decide) (fun c_11 => ?_) (fun c_11 => ?_)
    · have hw := hw.1 c_11
      refine lv_iconst (v := 0) hx hb dX10_named_70 (by decide) ?_
      exact J_71 v2 v3 0 M _ _ _ hw hP hS (lv_sub hl [0, 1, 2] rfl)
    · have hw := hw.2 c_11
      refine lv_iconst (v := 1) hx hb dX10_named_66 (by decide) ?_
      refine lv_goto (tgt := 71) hx hb dX10_named_67 (by decide) ?_
      exact J_71 v2 v3 1 M _ _ _ hw hP hS (lv_sub hl [0, 1, 2] rfl)
  have J_47 : ∀ (v1 : Int32) (v2 : Int32) (s0 : Int32) (M : Mem) (H : Heap) (locs : List Loc) (ls : Array Slot), b_X10_named_47 h Q v1 v2 s0 M → va_P G.2.1 clsA (wl G M) H → va_S (inW G) s.heap H locs → lv_has ls 5 [(0, .ref (G.1 + h)), (1, .int v1), (2, .int v2)] → W p l e ({ frames := 1, cells := 0, slots := 0, locals := 21 } : Room) s m ([.ref (G.1 + h), .int a1] : List Value).toArray below meth c H locs 0 0 (MQ below (Pq G (Qv Q)) ([.ref (G.1 + h), .int a1] : List Value).toArray s 0 0 (inW G)) (F0 m 47 ls [.int s0]) := by
    intro v1 v2 s0 M H locs ls  hw hP hS hl
    unfold b_X10_named_47 at hw
    refine lv_istore_n (lv' := [(3, .int s0), (0, .ref (G.1 + h)), (1, .int v1), (2, .int v2)]) hx hb dX10_named_47 rfl hl (by decide) rfl (fun ls hl => ?_)
    refine lv_iload_n hx hb dX10_named_48 rfl (lv_at hl 2 rfl) ?_
    refine lv_aload_n hx hb dX10_named_49 rfl (lv_at hl 1 rfl) ?_
    refine mw_get (ci := 10) (v := .int (M h 6)) (C := RX10) (T := TX10) (N := 25) hx hb ht inX10 hown hSt hP kh (by decide) (mk10 kh) rfl 6 (by decide) (ht _ wf_RX10_127) rfl rfl dX10_named_50 ?_
    refine lv_if_ne (tgt := 61) hx hb dX10_named_53 (by decide) (fun c_12 => ?_) (fun c_12 => ?_)
    · have hw := hw.1 c_12
      refine lv_bipush (v := 109) hx hb dX10_named_61 (by decide) ?_
      exact J_63 v2 s0 v1 109 M _ _ _ hw hP hS (lv_sub hl [1, 3, 0] rfl)
    · have hw := hw.2 c_12
      refine lv_bipush (v := 104) hx hb dX10_named_56 (by decide) ?_
      refine lv_goto (tgt := 63) hx hb dX10_named_58 (by decide) ?_
      exact J_63 v2 s0 v1 104 M _ _ _ hw hP hS (lv_sub hl [1, 3, 0] rfl)
  have J_39 : ∀ (v1 : Int32) (v2 : Int32) (s0 : Int32) (s1 : Int32) (M : Mem) (H : Heap) (locs : List Loc) (ls : Array Slot), b_X10_named_39 h Q v1 v2 s0 s1 M → va_P G.2.1 clsA (wl G M) H → va_S (inW G) s.heap H locs → lv_has ls 5 [(0, .ref (G.1 + h)), (1, .int v1), (2, .int v2)] → W p l e ({ frames := 1, cells := 0, slots := 0, locals := 21 } : Room) s m ([.ref (G.1 + h), .int a1] : List Value).toArray below meth c H locs 0 0 (MQ below (Pq G (Qv Q)) ([.ref (G.1 + h), .int a1] : List Value).toArray s 0 0 (inW G)) (F0 m 39 ls [.int s1, .int s0]) := by
    intro v1 v2 s0 s1 M H locs ls  hw hP hS hl
    unfold b_X10_named_39 at hw
    refine lv_icmp_ne (tgt := 46) hx hb dX10_named_39 (by decide) (fun c_13 => ?_) (fun c_13 => ?_)
    · have hw := hw.1 c_13
      refine lv_iconst (v := 0) hx hb dX10_named_46 (by decide) ?_
      exact J_47 v1 v2 0 M _ _ _ hw hP hS (lv_sub hl [0, 1, 2] rfl)
    · have hw := hw.2 c_13
      refine lv_iconst (v := 1) hx hb dX10_named_42 (by decide) ?_
      refine lv_goto (tgt := 47) hx hb dX10_named_43 (by decide) ?_
      exact J_47 v1 v2 1 M _ _ _ hw hP hS (lv_sub hl [0, 1, 2] rfl)
  have J_23 : ∀ (v1 : Int32) (s0 : Int32) (M : Mem) (H : Heap) (locs : List Loc) (ls : Array Slot), b_X10_named_23 h Q v1 s0 M → va_P G.2.1 clsA (wl G M) H → va_S (inW G) s.heap H locs → lv_has ls 5 [(0, .ref (G.1 + h)), (1, .int v1)] → W p l e ({ frames := 1, cells := 0, slots := 0, locals := 21 } : Room) s m ([.ref (G.1 + h), .int a1] : List Value).toArray below meth c H locs 0 0 (MQ below (Pq G (Qv Q)) ([.ref (G.1 + h), .int a1] : List Value).toArray s 0 0 (inW G)) (F0 m 23 ls [.int s0]) := by
    intro v1 s0 M H locs ls  hw hP hS hl
    unfold b_X10_named_23 at hw
    refine lv_istore_n (lv' := [(2, .int s0), (0, .ref (G.1 + h)), (1, .int v1)]) hx hb dX10_named_23 rfl hl (by decide) rfl (fun ls hl => ?_)
    refine lv_iload_n hx hb dX10_named_24 rfl (lv_at hl 2 rfl) ?_
    refine lv_aload_n hx hb dX10_named_25 rfl (lv_at hl 1 rfl) ?_
    refine mw_get (ci := 10) (v := .int (M h 6)) (C := RX10) (T := TX10) (N := 25) hx hb ht inX10 hown hSt hP kh (by decide) (mk10 kh) rfl 6 (by decide) (ht _ wf_RX10_127) rfl rfl dX10_named_26 ?_
    refine lv_if_ne (tgt := 37) hx hb dX10_named_29 (by decide) (fun c_14 => ?_) (fun c_14 => ?_)
    · have hw := hw.1 c_14
      refine lv_bipush (v := 119) hx hb dX10_named_37 (by decide) ?_
      exact J_39 v1 s0 v1 119 M _ _ _ hw hP hS (lv_sub hl [1, 2, 0] rfl)
    · have hw := hw.2 c_14
      refine lv_bipush (v := 115) hx hb dX10_named_32 (by decide) ?_
      refine lv_goto (tgt := 39) hx hb dX10_named_34 (by decide) ?_
      exact J_39 v1 s0 v1 115 M _ _ _ hw hP hS (lv_sub hl [1, 2, 0] rfl)
  have J_15 : ∀ (v1 : Int32) (s0 : Int32) (s1 : Int32) (M : Mem) (H : Heap) (locs : List Loc) (ls : Array Slot), b_X10_named_15 h Q v1 s0 s1 M → va_P G.2.1 clsA (wl G M) H → va_S (inW G) s.heap H locs → lv_has ls 5 [(0, .ref (G.1 + h)), (1, .int v1)] → W p l e ({ frames := 1, cells := 0, slots := 0, locals := 21 } : Room) s m ([.ref (G.1 + h), .int a1] : List Value).toArray below meth c H locs 0 0 (MQ below (Pq G (Qv Q)) ([.ref (G.1 + h), .int a1] : List Value).toArray s 0 0 (inW G)) (F0 m 15 ls [.int s1, .int s0]) := by
    intro v1 s0 s1 M H locs ls  hw hP hS hl
    unfold b_X10_named_15 at hw
    refine lv_icmp_ne (tgt := 22) hx hb dX10_named_15 (by decide) (fun c_15 => ?_) (fun c_15 => ?_)
    · have hw := hw.1 c_15
      refine lv_iconst (v := 0) hx hb dX10_named_22 (by decide) ?_
      exact J_23 v1 0 M _ _ _ hw hP hS (lv_sub hl [0, 1] rfl)
    · have hw := hw.2 c_15
      refine lv_iconst (v := 1) hx hb dX10_named_18 (by decide) ?_
      refine lv_goto (tgt := 23) hx hb dX10_named_19 (by decide) ?_
      exact J_23 v1 1 M _ _ _ hw hP hS (lv_sub hl [0, 1] rfl)
  refine lv_iload_n hx hb dX10_named_0 rfl (lv_at hl 1 rfl) ?_
  refine lv_aload_n hx hb dX10_named_1 rfl (lv_at hl 0 rfl) ?_
  refine mw_get (ci := 10) (v := .int (M h 6)) (C := RX10) (T := TX10) (N := 25) hx hb ht inX10 hown hSt hP kh (by decide) (mk10 kh) rfl 6 (by decide) (ht _ wf_RX10_127) rfl rfl dX10_named_2 ?_
  refine lv_if_ne (tgt := 13) hx hb dX10_named_5 (by decide) (fun c_16 => ?_) (fun c_16 => ?_)
  · have hw := hw.1 c_16
    refine lv_bipush (v := 100) hx hb dX10_named_13 (by decide) ?_
    exact J_15 a1 a1 100 M _ _ _ hw hP hS (lv_sub hl [0, 1] rfl)
  · have hw := hw.2 c_16
    refine lv_bipush (v := 99) hx hb dX10_named_8 (by decide) ?_
    refine lv_goto (tgt := 15) hx hb dX10_named_10 (by decide) ?_
    exact J_15 a1 a1 99 M _ _ _ hw hP hS (lv_sub hl [0, 1] rfl)
def b_X10_number_56 (h : Nat) (Q : Mem → Prop) (v1 : Int32) (M : Mem) : Prop :=
  wp_X10_adds h v1 M (fun M_1 => Q M_1)
def B_X10_number_4 (h : Nat) (Q : Mem → Prop) (K4 : Int32 → Int32 → Mem → Prop) (v1 : Int32) (v2 : Int32) (M : Mem) : Prop :=
  (4 ≤ v2 → b_X10_number_56 h Q v1 M) ∧ (¬ 4 ≤ v2 → wp_X10_byteAt h (M h 7) M (fun r_4 M_3 => wp_X10_isDigit r_4 M_3 (fun r_6 M_5 => (r_6 = 0 → b_X10_number_56 h Q v1 M_5) ∧ (¬ r_6 = 0 → wp_X10_byteAt h (M_5 h 7) M_5 (fun r_9 M_8 => ∀ x_10, x_10 = ((10 * v1) + r_9) - 48 → ∀ M_11, M_11 = mu M_8 h 7 ((M_8 h 7) + 1) → ∀ x_12 : Int32, x_12 = v2 + 1 → K4 x_10 x_12 M_11)))))
def l_X10_number_4 (h : Nat) (Q : Mem → Prop) : Nat → Int32 → Int32 → Mem → Prop
  | 0 => fun _ _ _ => False
  | n + 1 => B_X10_number_4 h Q (l_X10_number_4 h Q n)
def wp_X10_number (h : Nat) (M : Mem) (Q : Mem → Prop) : Prop :=
  kdT h = 10 ∧ (∃ n, l_X10_number_4 h Q n 0 0 M)
set_option maxHeartbeats 4000000 in
set_option maxRecDepth 100000 in
theorem so_X10_number (l : Launch) (G : Gm) (h : Nat) (M : Mem) (Q : Mem → Prop) (hw : wp_X10_number h M Q) : Ct l G yX10_number cX10_number 3 none ({ frames := 2, cells := 0, slots := 0, locals := 42 } : Room) [.ref (G.1 + h)] M (Qv Q) := by
  unfold wp_X10_number at hw
  obtain ⟨kh, hw⟩ := hw
  refine ct_of (by decide) (Nat.le_of_ble_eq_true rfl) ?_
  intro p e s m below meth c E_ ls H hl hP hS
  obtain ⟨hx, hb, hml, hown, hts, ht, hr, hlocks, hSt, hTb⟩ := E_
  have hl : lv_has ls 3 [(0, .ref (G.1 + h))] := hl
  have J_56 : ∀ (v1 : Int32) (M : Mem) (H : Heap) (locs : List Loc) (ls : Array Slot), b_X10_number_56 h Q v1 M → va_P G.2.1 clsA (wl G M) H → va_S (inW G) s.heap H locs → lv_has ls 3 [(0, .ref (G.1 + h)), (1, .int v1)] → W p l e ({ frames := 2, cells := 0, slots := 0, locals := 42 } : Room) s m ([.ref (G.1 + h)] : List Value).toArray below meth c H locs 0 0 (MQ below (Pq G (Qv Q)) ([.ref (G.1 + h)] : List Value).toArray s 0 0 (inW G)) (F0 m 56 ls []) := by
    intro v1 M H locs ls  hw hP hS hl
    unfold b_X10_number_56 at hw
    refine lv_aload_n hx hb dX10_number_56 rfl (lv_at hl 0 rfl) ?_
    refine lv_iload_n hx hb dX10_number_57 rfl (lv_at hl 1 rfl) ?_
    refine mw_V (As := [.int v1]) (rest := []) (T := TX10) (N := 25) (n := 1) ⟨hx, hb, hml, hown, hts⟩ (so_X10_adds l G h v1 M _ hw) wm_RX10_123 wi_yX10_adds wv_yX10_adds wn_RX10 wc_yX10_adds (by decide) ⟨Nat.le_of_ble_eq_true rfl, Nat.le_of_ble_eq_true rfl⟩ ⟨rfl, rfl⟩ kh (by decide) (mk10 kh) rfl hSt hTb hP hS rfl hl.1 rfl (Nat.le_of_ble_eq_true rfl) dX10_number_58 ⟨Nat.le_refl 0, Nat.le_refl 0⟩ (fun rr_ M_1 H locs hq hP hS => ?_)
    obtain ⟨rfl, hw⟩ := hq
    exact W.vret hx hb hr (mw_end hP hSt hTb hS ⟨rfl, hw⟩) hS.2.2 dX10_number_61
  have L_4 : ∀ (n4 : Nat) (v1 : Int32) (v2 : Int32) (M : Mem) (H : Heap) (locs : List Loc) (ls : Array Slot), l_X10_number_4 h Q n4 v1 v2 M → va_P G.2.1 clsA (wl G M) H → va_S (inW G) s.heap H locs → lv_has ls 3 [(0, .ref (G.1 + h)), (1, .int v1), (2, .int v2)] → W p l e ({ frames := 2, cells := 0, slots := 0, locals := 42 } : Room) s m ([.ref (G.1 + h)] : List Value).toArray below meth c H locs 0 0 (MQ below (Pq G (Qv Q)) ([.ref (G.1 + h)] : List Value).toArray s 0 0 (inW G)) (F0 m 4 ls []) := by
    intro   n4
    induction n4 with
    | zero => intro v1 v2 M H locs ls  hw hP hS hl; exact False.elim hw
    | succ n4 ih4 =>
      intro v1 v2 M H locs ls  hw hP hS hl
      have hw : B_X10_number_4 h Q (l_X10_number_4 h Q n4) v1 v2 M := hw
      unfold B_X10_number_4 at hw
      refine lv_iload_n hx hb dX10_number_4 rfl (lv_at hl 2 rfl) ?_
      refine lv_iconst (v := 4) hx hb dX10_number_5 (by decide) ?_
      refine lv_icmp_ge (tgt := 56) hx hb dX10_number_6 (by decide) (fun c_2 => ?_) (fun c_2 => ?_)
      · have hw := hw.1 c_2
        exact J_56 v1 M _ _ _ hw hP hS (lv_sub hl [0, 1] rfl)
      · have hw := hw.2 c_2
        refine lv_aload_n hx hb dX10_number_9 rfl (lv_at hl 0 rfl) ?_
        refine lv_aload_n hx hb dX10_number_10 rfl (lv_at hl 0 rfl) ?_
        refine mw_get (ci := 10) (v := .int (M h 7)) (C := RX10) (T := TX10) (N := 25) hx hb ht inX10 hown hSt hP kh (by decide) (mk10 kh) rfl 7 (by decide) (ht _ wf_RX10_115) rfl rfl dX10_number_11 ?_
        refine mw_V (As := [.int (M h 7)]) (rest := []) (T := TX10) (N := 25) (n := 1) ⟨hx, hb, hml, hown, hts⟩ (so_X10_byteAt l G h (M h 7) M _ hw) wm_RX10_117 wi_yX10_byteAt wv_yX10_byteAt wn_RX10 wc_yX10_byteAt (by decide) ⟨Nat.le_of_ble_eq_true rfl, Nat.le_of_ble_eq_true rfl⟩ ⟨rfl, rfl⟩ kh (by decide) (mk10 kh) rfl hSt hTb hP hS rfl hl.1 rfl (Nat.le_of_ble_eq_true rfl) dX10_number_14 ⟨Nat.le_refl 0, Nat.le_refl 0⟩ (fun rr_ M_3 H locs hq hP hS => ?_)
        obtain ⟨r_4, rfl, hw⟩ := hq
        refine mw_Sx (As := [.int r_4]) (rest := []) (n := 1) ⟨hx, hb, hml, hown, hts⟩ (so_X10_isDigit l G r_4 M_3 _ hw) wm_RX10_120 wt_yX10_isDigit wn_RX10 wc_yX10_isDigit (by decide) ⟨Nat.le_of_ble_eq_true rfl, Nat.le_of_ble_eq_true rfl⟩ ⟨rfl, rfl⟩ hSt hTb hP hS rfl hl.1 rfl (Nat.le_of_ble_eq_true rfl) dX10_number_17 ⟨Nat.le_refl 0, Nat.le_refl 0⟩ (fun rr_ M_5 H locs hq hP hS => ?_)
        obtain ⟨r_6, rfl, hw⟩ := hq
        refine lv_if_eq (tgt := 56) hx hb dX10_number_20 (by decide) (fun c_7 => ?_) (fun c_7 => ?_)
        · have hw := hw.1 c_7
          exact J_56 v1 M_5 _ _ _ hw hP hS (lv_sub hl [0, 1] rfl)
        · have hw := hw.2 c_7
          refine lv_bipush (v := 10) hx hb dX10_number_23 (by decide) ?_
          refine lv_iload_n hx hb dX10_number_25 rfl (lv_at hl 1 rfl) ?_
          refine lv_imul hx hb dX10_number_26 ?_
          refine lv_aload_n hx hb dX10_number_27 rfl (lv_at hl 0 rfl) ?_
          refine lv_aload_n hx hb dX10_number_28 rfl (lv_at hl 0 rfl) ?_
          refine mw_get (ci := 10) (v := .int (M_5 h 7)) (C := RX10) (T := TX10) (N := 25) hx hb ht inX10 hown hSt hP kh (by decide) (mk10 kh) rfl 7 (by decide) (ht _ wf_RX10_115) rfl rfl dX10_number_29 ?_
          refine mw_V (As := [.int (M_5 h 7)]) (rest := [.int (10 * v1)]) (T := TX10) (N := 25) (n := 1) ⟨hx, hb, hml, hown, hts⟩ (so_X10_byteAt l G h (M_5 h 7) M_5 _ hw) wm_RX10_117 wi_yX10_byteAt wv_yX10_byteAt wn_RX10 wc_yX10_byteAt (by decide) ⟨Nat.le_of_ble_eq_true rfl, Nat.le_of_ble_eq_true rfl⟩ ⟨rfl, rfl⟩ kh (by decide) (mk10 kh) rfl hSt hTb hP hS rfl hl.1 rfl (Nat.le_of_ble_eq_true rfl) dX10_number_32 ⟨Nat.le_refl 0, Nat.le_refl 0⟩ (fun rr_ M_8 H locs hq hP hS => ?_)
          obtain ⟨r_9, rfl, hw⟩ := hq
          refine lv_iadd hx hb dX10_number_35 ?_
          refine lv_bipush (v := 48) hx hb dX10_number_36 (by decide) ?_
          refine lv_isub hx hb dX10_number_38 ?_
          refine lv_topi (fun x_10 ex_10 => ?_)
          have hw := hw x_10 ex_10
          refine lv_istore_n (lv' := [(1, .int x_10), (0, .ref (G.1 + h)), (2, .int v2)]) hx hb dX10_number_39 rfl hl (by decide) rfl (fun ls hl => ?_)
          refine lv_aload_n hx hb dX10_number_40 rfl (lv_at hl 1 rfl) ?_
          refine lv_dup hx hb dX10_number_41 rfl ?_
          refine mw_get (ci := 10) (v := .int (M_8 h 7)) (C := RX10) (T := TX10) (N := 25) hx hb ht inX10 hown hSt hP kh (by decide) (mk10 kh) rfl 7 (by decide) (ht _ wf_RX10_115) rfl rfl dX10_number_42 ?_
          refine lv_iconst (v := 1) hx hb dX10_number_45 (by decide) ?_
          refine lv_iadd hx hb dX10_number_46 ?_
          refine mw_put (ci := 10) (v := (M_8 h 7) + 1) (ty := .int) (C := RX10) (T := TX10) (N := 25) hx hb ht inX10 tyX10 tyX10_ok nmX10 hown hSt hP hS kh (by decide) (mk10 kh) rfl 7 (by decide) (ht _ wf_RX10_115) rfl rfl (by decide +kernel) (vp_nar_int _) rfl (Nat.le_of_ble_eq_true rfl) (by rw [mk10 kh]; simp [mu]) dX10_number_47 (fun M_11 H locs eM_11 hP hS => ?_)
          have hw := hw M_11 eM_11
          obtain ⟨x_12, ex_12⟩ : ∃ z : Int32, z = v2 + 1 := ⟨_, rfl⟩
          have hw := hw x_12 ex_12
          refine lv_iinc (v := x_12) (lv' := [(2, .int x_12), (1, .int x_10), (0, .ref (G.1 + h))]) hx hb dX10_number_50 hl (k := 2) rfl (by rw [ex_12]; rfl) (by decide) rfl (fun ls hl => ?_)
          refine lv_goto (tgt := 4) hx hb dX10_number_53 (by decide) ?_
          exact ih4 x_10 x_12 M_11 _ _ _ hw hP hS (lv_sub hl [2, 1, 0] rfl)
  refine lv_iconst (v := 0) hx hb dX10_number_0 (by decide) ?_
  refine lv_istore_n (lv' := [(1, .int 0), (0, .ref (G.1 + h))]) hx hb dX10_number_1 rfl hl (by decide) rfl (fun ls hl => ?_)
  refine lv_iconst (v := 0) hx hb dX10_number_2 (by decide) ?_
  refine lv_istore_n (lv' := [(2, .int 0), (1, .int 0), (0, .ref (G.1 + h))]) hx hb dX10_number_3 rfl hl (by decide) rfl (fun ls hl => ?_)
  obtain ⟨n_, hw⟩ := hw
  exact L_4 n_ 0 0 M _ _ _ hw hP hS (lv_sub hl [2, 1, 0] rfl)
def b_X10_factor_153 (g0 : Nat → Mem → (Mem → Prop) → Prop) (g1 : Nat → Mem → (Mem → Prop) → Prop) (g2 : Nat → Mem → (Mem → Prop) → Prop) (g3 : Nat → Mem → (Mem → Prop) → Prop) (g4 : Nat → Mem → (Mem → Prop) → Prop) (g5 : Nat → Mem → (Mem → Prop) → Prop) (h : Nat) (Q : Mem → Prop) (M : Mem) : Prop :=
  ∀ M_1, M_1 = mu M h 9 ((M h 9) - 1) → Q M_1
def b_X10_factor_149 (g0 : Nat → Mem → (Mem → Prop) → Prop) (g1 : Nat → Mem → (Mem → Prop) → Prop) (g2 : Nat → Mem → (Mem → Prop) → Prop) (g3 : Nat → Mem → (Mem → Prop) → Prop) (g4 : Nat → Mem → (Mem → Prop) → Prop) (g5 : Nat → Mem → (Mem → Prop) → Prop) (h : Nat) (Q : Mem → Prop) (s0 : Nat) (s1 : Int32) (s2 : Int32) (M : Mem) : Prop :=
  ∀ M_2, M_2 = mu M s0 7 (s1 + s2) → b_X10_factor_153 g0 g1 g2 g3 g4 g5 h Q M_2
def b_X10_factor_129 (g0 : Nat → Mem → (Mem → Prop) → Prop) (g1 : Nat → Mem → (Mem → Prop) → Prop) (g2 : Nat → Mem → (Mem → Prop) → Prop) (g3 : Nat → Mem → (Mem → Prop) → Prop) (g4 : Nat → Mem → (Mem → Prop) → Prop) (g5 : Nat → Mem → (Mem → Prop) → Prop) (h : Nat) (Q : Mem → Prop) (s0 : Nat) (s1 : Int32) (M : Mem) : Prop :=
  isb s1 ∧ ∀ M_3, M_3 = mu M s0 11 s1 → ((M_3 h 11) = 0 → b_X10_factor_149 g0 g1 g2 g3 g4 g5 h Q h (M_3 h 7) 0 M_3) ∧ (¬ (M_3 h 11) = 0 → b_X10_factor_149 g0 g1 g2 g3 g4 g5 h Q h (M_3 h 7) 1 M_3)
def b_X10_factor_128 (g0 : Nat → Mem → (Mem → Prop) → Prop) (g1 : Nat → Mem → (Mem → Prop) → Prop) (g2 : Nat → Mem → (Mem → Prop) → Prop) (g3 : Nat → Mem → (Mem → Prop) → Prop) (g4 : Nat → Mem → (Mem → Prop) → Prop) (g5 : Nat → Mem → (Mem → Prop) → Prop) (h : Nat) (Q : Mem → Prop) (s0 : Nat) (M : Mem) : Prop :=
  b_X10_factor_129 g0 g1 g2 g3 g4 g5 h Q s0 0 M
def b_X10_factor_43 (g0 : Nat → Mem → (Mem → Prop) → Prop) (g1 : Nat → Mem → (Mem → Prop) → Prop) (g2 : Nat → Mem → (Mem → Prop) → Prop) (g3 : Nat → Mem → (Mem → Prop) → Prop) (g4 : Nat → Mem → (Mem → Prop) → Prop) (g5 : Nat → Mem → (Mem → Prop) → Prop) (h : Nat) (Q : Mem → Prop) (v1 : Int32) (M : Mem) : Prop :=
  (¬ (M h 9) = 5 → ∀ M_7, M_7 = mu M h 9 ((M h 9) + 1) → ∀ M_8, M_8 = mu M_7 h 7 ((M_7 h 7) + 1) → (¬ v1 = 33 → g5 h M_8 (fun M_10 => ((M_10 h 11) = 0 → b_X10_factor_128 g0 g1 g2 g3 g4 g5 h Q h M_10) ∧ (¬ (M_10 h 11) = 0 → wp_X10_byteAt h (M_10 h 7) M_10 (fun r_13 M_12 => (¬ r_13 = 41 → b_X10_factor_128 g0 g1 g2 g3 g4 g5 h Q h M_12) ∧ (r_13 = 41 → b_X10_factor_129 g0 g1 g2 g3 g4 g5 h Q h 1 M_12))))) ∧ (v1 = 33 → g0 h M_8 (fun M_15 => wp_X10_adds h 20033 M_15 (fun M_16 => b_X10_factor_153 g0 g1 g2 g3 g4 g5 h Q M_16)))) ∧ ((M h 9) = 5 → ∀ M_17, M_17 = mu M h 11 0 → Q M_17)
def wb_X10_factor (g0 : Nat → Mem → (Mem → Prop) → Prop) (g1 : Nat → Mem → (Mem → Prop) → Prop) (g2 : Nat → Mem → (Mem → Prop) → Prop) (g3 : Nat → Mem → (Mem → Prop) → Prop) (g4 : Nat → Mem → (Mem → Prop) → Prop) (g5 : Nat → Mem → (Mem → Prop) → Prop) (h : Nat) (M : Mem) (Q : Mem → Prop) : Prop :=
  kdT h = 10 ∧ (wp_X10_byteAt h (M h 7) M (fun r_19 M_18 => wp_X10_isDigit r_19 M_18 (fun r_21 M_20 => (r_21 = 0 → (r_19 = 33 → b_X10_factor_43 g0 g1 g2 g3 g4 g5 h Q r_19 M_20) ∧ (¬ r_19 = 33 → (r_19 = 40 → b_X10_factor_43 g0 g1 g2 g3 g4 g5 h Q r_19 M_20) ∧ (¬ r_19 = 40 → wp_X10_named h r_19 M_20 (fun M_25 => Q M_25)))) ∧ (¬ r_21 = 0 → wp_X10_number h M_20 (fun M_26 => Q M_26)))))
def b_X10_product_50 (g0 : Nat → Mem → (Mem → Prop) → Prop) (g1 : Nat → Mem → (Mem → Prop) → Prop) (g2 : Nat → Mem → (Mem → Prop) → Prop) (g3 : Nat → Mem → (Mem → Prop) → Prop) (g4 : Nat → Mem → (Mem → Prop) → Prop) (g5 : Nat → Mem → (Mem → Prop) → Prop) (h : Nat) (Q : Mem → Prop) (K4 : Mem → Prop) (M : Mem) : Prop :=
  wp_X10_byteAt h (M h 7) M (fun r_2 M_1 => ∀ M_3, M_3 = mu M_1 h 7 ((M_1 h 7) + 1) → g0 h M_3 (fun M_4 => wp_X10_adds h (20000 + r_2) M_4 (fun M_5 => K4 M_5)))
def B_X10_product_4 (g0 : Nat → Mem → (Mem → Prop) → Prop) (g1 : Nat → Mem → (Mem → Prop) → Prop) (g2 : Nat → Mem → (Mem → Prop) → Prop) (g3 : Nat → Mem → (Mem → Prop) → Prop) (g4 : Nat → Mem → (Mem → Prop) → Prop) (g5 : Nat → Mem → (Mem → Prop) → Prop) (h : Nat) (Q : Mem → Prop) (K4 : Mem → Prop)  (M : Mem) : Prop :=
  ((M h 11) = 0 → Q M) ∧ (¬ (M h 11) = 0 → wp_X10_byteAt h (M h 7) M (fun r_8 M_7 => (r_8 = 42 → b_X10_product_50 g0 g1 g2 g3 g4 g5 h Q K4 M_7) ∧ (¬ r_8 = 42 → wp_X10_byteAt h (M_7 h 7) M_7 (fun r_11 M_10 => (r_11 = 47 → b_X10_product_50 g0 g1 g2 g3 g4 g5 h Q K4 M_10) ∧ (¬ r_11 = 47 → wp_X10_byteAt h (M_10 h 7) M_10 (fun r_14 M_13 => (¬ r_14 = 37 → Q M_13) ∧ (r_14 = 37 → b_X10_product_50 g0 g1 g2 g3 g4 g5 h Q K4 M_13)))))))
def l_X10_product_4 (g0 : Nat → Mem → (Mem → Prop) → Prop) (g1 : Nat → Mem → (Mem → Prop) → Prop) (g2 : Nat → Mem → (Mem → Prop) → Prop) (g3 : Nat → Mem → (Mem → Prop) → Prop) (g4 : Nat → Mem → (Mem → Prop) → Prop) (g5 : Nat → Mem → (Mem → Prop) → Prop) (h : Nat) (Q : Mem → Prop) : Nat → Mem → Prop
  | 0 => fun _ => False
  | n + 1 => B_X10_product_4 g0 g1 g2 g3 g4 g5 h Q (l_X10_product_4 g0 g1 g2 g3 g4 g5 h Q n)
def wb_X10_product (g0 : Nat → Mem → (Mem → Prop) → Prop) (g1 : Nat → Mem → (Mem → Prop) → Prop) (g2 : Nat → Mem → (Mem → Prop) → Prop) (g3 : Nat → Mem → (Mem → Prop) → Prop) (g4 : Nat → Mem → (Mem → Prop) → Prop) (g5 : Nat → Mem → (Mem → Prop) → Prop) (h : Nat) (M : Mem) (Q : Mem → Prop) : Prop :=
  kdT h = 10 ∧ (g0 h M (fun M_16 => ∃ n, l_X10_product_4 g0 g1 g2 g3 g4 g5 h Q n M_16))
def b_X10_sum_37 (g0 : Nat → Mem → (Mem → Prop) → Prop) (g1 : Nat → Mem → (Mem → Prop) → Prop) (g2 : Nat → Mem → (Mem → Prop) → Prop) (g3 : Nat → Mem → (Mem → Prop) → Prop) (g4 : Nat → Mem → (Mem → Prop) → Prop) (g5 : Nat → Mem → (Mem → Prop) → Prop) (h : Nat) (Q : Mem → Prop) (K4 : Mem → Prop) (M : Mem) : Prop :=
  wp_X10_byteAt h (M h 7) M (fun r_2 M_1 => ∀ M_3, M_3 = mu M_1 h 7 ((M_1 h 7) + 1) → g1 h M_3 (fun M_4 => wp_X10_adds h (20000 + r_2) M_4 (fun M_5 => K4 M_5)))
def B_X10_sum_4 (g0 : Nat → Mem → (Mem → Prop) → Prop) (g1 : Nat → Mem → (Mem → Prop) → Prop) (g2 : Nat → Mem → (Mem → Prop) → Prop) (g3 : Nat → Mem → (Mem → Prop) → Prop) (g4 : Nat → Mem → (Mem → Prop) → Prop) (g5 : Nat → Mem → (Mem → Prop) → Prop) (h : Nat) (Q : Mem → Prop) (K4 : Mem → Prop)  (M : Mem) : Prop :=
  ((M h 11) = 0 → Q M) ∧ (¬ (M h 11) = 0 → wp_X10_byteAt h (M h 7) M (fun r_8 M_7 => (r_8 = 43 → b_X10_sum_37 g0 g1 g2 g3 g4 g5 h Q K4 M_7) ∧ (¬ r_8 = 43 → wp_X10_byteAt h (M_7 h 7) M_7 (fun r_11 M_10 => (¬ r_11 = 45 → Q M_10) ∧ (r_11 = 45 → b_X10_sum_37 g0 g1 g2 g3 g4 g5 h Q K4 M_10)))))
def l_X10_sum_4 (g0 : Nat → Mem → (Mem → Prop) → Prop) (g1 : Nat → Mem → (Mem → Prop) → Prop) (g2 : Nat → Mem → (Mem → Prop) → Prop) (g3 : Nat → Mem → (Mem → Prop) → Prop) (g4 : Nat → Mem → (Mem → Prop) → Prop) (g5 : Nat → Mem → (Mem → Prop) → Prop) (h : Nat) (Q : Mem → Prop) : Nat → Mem → Prop
  | 0 => fun _ => False
  | n + 1 => B_X10_sum_4 g0 g1 g2 g3 g4 g5 h Q (l_X10_sum_4 g0 g1 g2 g3 g4 g5 h Q n)
def wb_X10_sum (g0 : Nat → Mem → (Mem → Prop) → Prop) (g1 : Nat → Mem → (Mem → Prop) → Prop) (g2 : Nat → Mem → (Mem → Prop) → Prop) (g3 : Nat → Mem → (Mem → Prop) → Prop) (g4 : Nat → Mem → (Mem → Prop) → Prop) (g5 : Nat → Mem → (Mem → Prop) → Prop) (h : Nat) (M : Mem) (Q : Mem → Prop) : Prop :=
  kdT h = 10 ∧ (g1 h M (fun M_13 => ∃ n, l_X10_sum_4 g0 g1 g2 g3 g4 g5 h Q n M_13))
def b_X10_compared_42 (g0 : Nat → Mem → (Mem → Prop) → Prop) (g1 : Nat → Mem → (Mem → Prop) → Prop) (g2 : Nat → Mem → (Mem → Prop) → Prop) (g3 : Nat → Mem → (Mem → Prop) → Prop) (g4 : Nat → Mem → (Mem → Prop) → Prop) (g5 : Nat → Mem → (Mem → Prop) → Prop) (h : Nat) (Q : Mem → Prop) (v1 : Int32) (M : Mem) : Prop :=
  ∀ M_1, M_1 = mu M h 7 ((M h 7) + 1) → g2 h M_1 (fun M_2 => wp_X10_adds h (20000 + v1) M_2 (fun M_3 => Q M_3))
def b_X10_compared_23 (g0 : Nat → Mem → (Mem → Prop) → Prop) (g1 : Nat → Mem → (Mem → Prop) → Prop) (g2 : Nat → Mem → (Mem → Prop) → Prop) (g3 : Nat → Mem → (Mem → Prop) → Prop) (g4 : Nat → Mem → (Mem → Prop) → Prop) (g5 : Nat → Mem → (Mem → Prop) → Prop) (h : Nat) (Q : Mem → Prop) (s0 : Int32) (M : Mem) : Prop :=
  (s0 = 60 → b_X10_compared_42 g0 g1 g2 g3 g4 g5 h Q s0 M) ∧ (¬ s0 = 60 → (s0 = 61 → b_X10_compared_42 g0 g1 g2 g3 g4 g5 h Q s0 M) ∧ (¬ s0 = 61 → (¬ s0 = 62 → Q M) ∧ (s0 = 62 → b_X10_compared_42 g0 g1 g2 g3 g4 g5 h Q s0 M)))
def wb_X10_compared (g0 : Nat → Mem → (Mem → Prop) → Prop) (g1 : Nat → Mem → (Mem → Prop) → Prop) (g2 : Nat → Mem → (Mem → Prop) → Prop) (g3 : Nat → Mem → (Mem → Prop) → Prop) (g4 : Nat → Mem → (Mem → Prop) → Prop) (g5 : Nat → Mem → (Mem → Prop) → Prop) (h : Nat) (M : Mem) (Q : Mem → Prop) : Prop :=
  kdT h = 10 ∧ (g2 h M (fun M_7 => ((M_7 h 11) = 0 → b_X10_compared_23 g0 g1 g2 g3 g4 g5 h Q (-1) M_7) ∧ (¬ (M_7 h 11) = 0 → wp_X10_byteAt h (M_7 h 7) M_7 (fun r_10 M_9 => b_X10_compared_23 g0 g1 g2 g3 g4 g5 h Q r_10 M_9))))
def B_X10_both_4 (g0 : Nat → Mem → (Mem → Prop) → Prop) (g1 : Nat → Mem → (Mem → Prop) → Prop) (g2 : Nat → Mem → (Mem → Prop) → Prop) (g3 : Nat → Mem → (Mem → Prop) → Prop) (g4 : Nat → Mem → (Mem → Prop) → Prop) (g5 : Nat → Mem → (Mem → Prop) → Prop) (h : Nat) (Q : Mem → Prop) (K4 : Mem → Prop)  (M : Mem) : Prop :=
  ((M h 11) = 0 → Q M) ∧ (¬ (M h 11) = 0 → wp_X10_byteAt h (M h 7) M (fun r_3 M_2 => (¬ r_3 = 38 → Q M_2) ∧ (r_3 = 38 → ∀ M_5, M_5 = mu M_2 h 7 ((M_2 h 7) + 1) → g3 h M_5 (fun M_6 => wp_X10_adds h 20038 M_6 (fun M_7 => K4 M_7)))))
def l_X10_both_4 (g0 : Nat → Mem → (Mem → Prop) → Prop) (g1 : Nat → Mem → (Mem → Prop) → Prop) (g2 : Nat → Mem → (Mem → Prop) → Prop) (g3 : Nat → Mem → (Mem → Prop) → Prop) (g4 : Nat → Mem → (Mem → Prop) → Prop) (g5 : Nat → Mem → (Mem → Prop) → Prop) (h : Nat) (Q : Mem → Prop) : Nat → Mem → Prop
  | 0 => fun _ => False
  | n + 1 => B_X10_both_4 g0 g1 g2 g3 g4 g5 h Q (l_X10_both_4 g0 g1 g2 g3 g4 g5 h Q n)
def wb_X10_both (g0 : Nat → Mem → (Mem → Prop) → Prop) (g1 : Nat → Mem → (Mem → Prop) → Prop) (g2 : Nat → Mem → (Mem → Prop) → Prop) (g3 : Nat → Mem → (Mem → Prop) → Prop) (g4 : Nat → Mem → (Mem → Prop) → Prop) (g5 : Nat → Mem → (Mem → Prop) → Prop) (h : Nat) (M : Mem) (Q : Mem → Prop) : Prop :=
  kdT h = 10 ∧ (g3 h M (fun M_8 => ∃ n, l_X10_both_4 g0 g1 g2 g3 g4 g5 h Q n M_8))
def B_X10_whole_4 (g0 : Nat → Mem → (Mem → Prop) → Prop) (g1 : Nat → Mem → (Mem → Prop) → Prop) (g2 : Nat → Mem → (Mem → Prop) → Prop) (g3 : Nat → Mem → (Mem → Prop) → Prop) (g4 : Nat → Mem → (Mem → Prop) → Prop) (g5 : Nat → Mem → (Mem → Prop) → Prop) (h : Nat) (Q : Mem → Prop) (K4 : Mem → Prop)  (M : Mem) : Prop :=
  ((M h 11) = 0 → Q M) ∧ (¬ (M h 11) = 0 → wp_X10_byteAt h (M h 7) M (fun r_3 M_2 => (¬ r_3 = 124 → Q M_2) ∧ (r_3 = 124 → ∀ M_5, M_5 = mu M_2 h 7 ((M_2 h 7) + 1) → g4 h M_5 (fun M_6 => wp_X10_adds h 20124 M_6 (fun M_7 => K4 M_7)))))
def l_X10_whole_4 (g0 : Nat → Mem → (Mem → Prop) → Prop) (g1 : Nat → Mem → (Mem → Prop) → Prop) (g2 : Nat → Mem → (Mem → Prop) → Prop) (g3 : Nat → Mem → (Mem → Prop) → Prop) (g4 : Nat → Mem → (Mem → Prop) → Prop) (g5 : Nat → Mem → (Mem → Prop) → Prop) (h : Nat) (Q : Mem → Prop) : Nat → Mem → Prop
  | 0 => fun _ => False
  | n + 1 => B_X10_whole_4 g0 g1 g2 g3 g4 g5 h Q (l_X10_whole_4 g0 g1 g2 g3 g4 g5 h Q n)
def wb_X10_whole (g0 : Nat → Mem → (Mem → Prop) → Prop) (g1 : Nat → Mem → (Mem → Prop) → Prop) (g2 : Nat → Mem → (Mem → Prop) → Prop) (g3 : Nat → Mem → (Mem → Prop) → Prop) (g4 : Nat → Mem → (Mem → Prop) → Prop) (g5 : Nat → Mem → (Mem → Prop) → Prop) (h : Nat) (M : Mem) (Q : Mem → Prop) : Prop :=
  kdT h = 10 ∧ (g4 h M (fun M_8 => ∃ n, l_X10_whole_4 g0 g1 g2 g3 g4 g5 h Q n M_8))
def rgT (d : Nat) : Room := { frames := 3 + d, cells := 0, slots := 0, locals := 64 + d * 21 }
def wg_T : Nat → (Nat → Mem → (Mem → Prop) → Prop) × (Nat → Mem → (Mem → Prop) → Prop) × (Nat → Mem → (Mem → Prop) → Prop) × (Nat → Mem → (Mem → Prop) → Prop) × (Nat → Mem → (Mem → Prop) → Prop) × (Nat → Mem → (Mem → Prop) → Prop)
  | 0 => (fun _ _ _ => False, fun _ _ _ => False, fun _ _ _ => False, fun _ _ _ => False, fun _ _ _ => False, fun _ _ _ => False)
  | d + 1 => (wb_X10_factor ((wg_T d).1) ((wg_T d).2.1) ((wg_T d).2.2.1) ((wg_T d).2.2.2.1) ((wg_T d).2.2.2.2.1) ((wg_T d).2.2.2.2.2), wb_X10_product ((wg_T d).1) ((wg_T d).2.1) ((wg_T d).2.2.1) ((wg_T d).2.2.2.1) ((wg_T d).2.2.2.2.1) ((wg_T d).2.2.2.2.2), wb_X10_sum ((wg_T d).1) ((wg_T d).2.1) ((wg_T d).2.2.1) ((wg_T d).2.2.2.1) ((wg_T d).2.2.2.2.1) ((wg_T d).2.2.2.2.2), wb_X10_compared ((wg_T d).1) ((wg_T d).2.1) ((wg_T d).2.2.1) ((wg_T d).2.2.2.1) ((wg_T d).2.2.2.2.1) ((wg_T d).2.2.2.2.2), wb_X10_both ((wg_T d).1) ((wg_T d).2.1) ((wg_T d).2.2.1) ((wg_T d).2.2.2.1) ((wg_T d).2.2.2.2.1) ((wg_T d).2.2.2.2.2), wb_X10_whole ((wg_T d).1) ((wg_T d).2.1) ((wg_T d).2.2.1) ((wg_T d).2.2.2.1) ((wg_T d).2.2.2.2.1) ((wg_T d).2.2.2.2.2))
def wp_X10_factor (d : Nat) : Nat → Mem → (Mem → Prop) → Prop := (wg_T d).1
def wp_X10_product (d : Nat) : Nat → Mem → (Mem → Prop) → Prop := (wg_T d).2.1
def wp_X10_sum (d : Nat) : Nat → Mem → (Mem → Prop) → Prop := (wg_T d).2.2.1
def wp_X10_compared (d : Nat) : Nat → Mem → (Mem → Prop) → Prop := (wg_T d).2.2.2.1
def wp_X10_both (d : Nat) : Nat → Mem → (Mem → Prop) → Prop := (wg_T d).2.2.2.2.1
def wp_X10_whole (d : Nat) : Nat → Mem → (Mem → Prop) → Prop := (wg_T d).2.2.2.2.2
set_option maxHeartbeats 8000000 in
set_option maxRecDepth 100000 in
theorem sg_T (l : Launch) (G : Gm) : ∀ d : Nat, (∀ (h : Nat) (M : Mem) (Q : Mem → Prop), (wg_T d).1 h M Q → Ct l G yX10_factor cX10_factor 2 none (rgT d) [.ref (G.1 + h)] M (Qv Q)) ∧ (∀ (h : Nat) (M : Mem) (Q : Mem → Prop), (wg_T d).2.1 h M Q → Ct l G yX10_product cX10_product 2 none (rgT d) [.ref (G.1 + h)] M (Qv Q)) ∧ (∀ (h : Nat) (M : Mem) (Q : Mem → Prop), (wg_T d).2.2.1 h M Q → Ct l G yX10_sum cX10_sum 2 none (rgT d) [.ref (G.1 + h)] M (Qv Q)) ∧ (∀ (h : Nat) (M : Mem) (Q : Mem → Prop), (wg_T d).2.2.2.1 h M Q → Ct l G yX10_compared cX10_compared 2 none (rgT d) [.ref (G.1 + h)] M (Qv Q)) ∧ (∀ (h : Nat) (M : Mem) (Q : Mem → Prop), (wg_T d).2.2.2.2.1 h M Q → Ct l G yX10_both cX10_both 1 none (rgT d) [.ref (G.1 + h)] M (Qv Q)) ∧ (∀ (h : Nat) (M : Mem) (Q : Mem → Prop), (wg_T d).2.2.2.2.2 h M Q → Ct l G yX10_whole cX10_whole 1 none (rgT d) [.ref (G.1 + h)] M (Qv Q)) := by
  intro d
  induction d with
  | zero => refine ⟨fun _ _ _ hw_ => False.elim hw_, fun _ _ _ hw_ => False.elim hw_, fun _ _ _ hw_ => False.elim hw_, fun _ _ _ hw_ => False.elim hw_, fun _ _ _ hw_ => False.elim hw_, fun _ _ _ hw_ => False.elim hw_⟩
  | succ d ih =>
    obtain ⟨g0, eg0⟩ : ∃ z, z = (wg_T d).1 := ⟨_, rfl⟩
    obtain ⟨g1, eg1⟩ : ∃ z, z = (wg_T d).2.1 := ⟨_, rfl⟩
    obtain ⟨g2, eg2⟩ : ∃ z, z = (wg_T d).2.2.1 := ⟨_, rfl⟩
    obtain ⟨g3, eg3⟩ : ∃ z, z = (wg_T d).2.2.2.1 := ⟨_, rfl⟩
    obtain ⟨g4, eg4⟩ : ∃ z, z = (wg_T d).2.2.2.2.1 := ⟨_, rfl⟩
    obtain ⟨g5, eg5⟩ : ∃ z, z = (wg_T d).2.2.2.2.2 := ⟨_, rfl⟩
    rw [← eg0] at ih
    rw [← eg1] at ih
    rw [← eg2] at ih
    rw [← eg3] at ih
    rw [← eg4] at ih
    rw [← eg5] at ih
    refine ⟨?_, ?_, ?_, ?_, ?_, ?_⟩
    · intro h M Q hw
      have hw : wb_X10_factor g0 g1 g2 g3 g4 g5 h M Q := by rw [eg0]; rw [eg1]; rw [eg2]; rw [eg3]; rw [eg4]; rw [eg5]; exact hw
      unfold wb_X10_factor at hw
      obtain ⟨kh, hw⟩ := hw
      refine ct_of (by decide) (Nat.le_of_ble_eq_true rfl) ?_
      intro p e s m below meth c E_ ls H hl hP hS
      obtain ⟨hx, hb, hml, hown, hts, ht, hr, hlocks, hSt, hTb⟩ := E_
      have hl : lv_has ls 2 [(0, .ref (G.1 + h))] := hl
      have J_153 : ∀  (M : Mem) (H : Heap) (locs : List Loc) (ls : Array Slot), b_X10_factor_153 g0 g1 g2 g3 g4 g5 h Q M → va_P G.2.1 clsA (wl G M) H → va_S (inW G) s.heap H locs → lv_has ls 2 [(0, .ref (G.1 + h))] → W p l e (rgT (d + 1)) s m ([.ref (G.1 + h)] : List Value).toArray below meth c H locs 0 0 (MQ below (Pq G (Qv Q)) ([.ref (G.1 + h)] : List Value).toArray s 0 0 (inW G)) (F0 m 153 ls []) := by
        intro  M H locs ls  hw hP hS hl
        unfold b_X10_factor_153 at hw
        refine lv_aload_n hx hb dX10_factor_153 rfl (lv_at hl 0 rfl) ?_
        refine lv_dup hx hb dX10_factor_154 rfl ?_
        refine mw_get (ci := 10) (v := .int (M h 9)) (C := RX10) (T := TX10) (N := 25) hx hb ht inX10 hown hSt hP kh (by decide) (mk10 kh) rfl 9 (by decide) (ht _ wf_RX10_136) rfl rfl dX10_factor_155 ?_
        refine lv_iconst (v := 1) hx hb dX10_factor_158 (by decide) ?_
        refine lv_isub hx hb dX10_factor_159 ?_
        refine mw_put (ci := 10) (v := (M h 9) - 1) (ty := .int) (C := RX10) (T := TX10) (N := 25) hx hb ht inX10 tyX10 tyX10_ok nmX10 hown hSt hP hS kh (by decide) (mk10 kh) rfl 9 (by decide) (ht _ wf_RX10_136) rfl rfl (by decide +kernel) (vp_nar_int _) rfl (Nat.le_of_ble_eq_true rfl) (by rw [mk10 kh]; simp [mu]) dX10_factor_160 (fun M_1 H locs eM_1 hP hS => ?_)
        have hw := hw M_1 eM_1
        exact W.vret hx hb hr (mw_end hP hSt hTb hS ⟨rfl, hw⟩) hS.2.2 dX10_factor_163
      have J_149 : ∀ (s0 : Nat) (s1 : Int32) (s2 : Int32) (M : Mem) (H : Heap) (locs : List Loc) (ls : Array Slot), kdT s0 = 10 → b_X10_factor_149 g0 g1 g2 g3 g4 g5 h Q s0 s1 s2 M → va_P G.2.1 clsA (wl G M) H → va_S (inW G) s.heap H locs → lv_has ls 2 [(0, .ref (G.1 + h))] → W p l e (rgT (d + 1)) s m ([.ref (G.1 + h)] : List Value).toArray below meth c H locs 0 0 (MQ below (Pq G (Qv Q)) ([.ref (G.1 + h)] : List Value).toArray s 0 0 (inW G)) (F0 m 149 ls [.int s2, .int s1, .ref (G.1 + s0)]) := by
        intro s0 s1 s2 M H locs ls ks0 hw hP hS hl
        unfold b_X10_factor_149 at hw
        refine lv_iadd hx hb dX10_factor_149 ?_
        refine mw_put (ci := 10) (v := s1 + s2) (ty := .int) (C := RX10) (T := TX10) (N := 25) hx hb ht inX10 tyX10 tyX10_ok nmX10 hown hSt hP hS ks0 (by decide) (mk10 ks0) rfl 7 (by decide) (ht _ wf_RX10_115) rfl rfl (by decide +kernel) (vp_nar_int _) rfl (Nat.le_of_ble_eq_true rfl) (by rw [mk10 ks0]; simp [mu]) dX10_factor_150 (fun M_2 H locs eM_2 hP hS => ?_)
        have hw := hw M_2 eM_2
        exact J_153 M_2 _ _ _ hw hP hS (lv_sub hl [0] rfl)
      have J_129 : ∀ (s0 : Nat) (s1 : Int32) (M : Mem) (H : Heap) (locs : List Loc) (ls : Array Slot), kdT s0 = 10 → b_X10_factor_129 g0 g1 g2 g3 g4 g5 h Q s0 s1 M → va_P G.2.1 clsA (wl G M) H → va_S (inW G) s.heap H locs → lv_has ls 2 [(0, .ref (G.1 + h))] → W p l e (rgT (d + 1)) s m ([.ref (G.1 + h)] : List Value).toArray below meth c H locs 0 0 (MQ below (Pq G (Qv Q)) ([.ref (G.1 + h)] : List Value).toArray s 0 0 (inW G)) (F0 m 129 ls [.int s1, .ref (G.1 + s0)]) := by
        intro s0 s1 M H locs ls ks0 hw hP hS hl
        unfold b_X10_factor_129 at hw
        obtain ⟨c_4, hw⟩ := hw
        refine mw_put (ci := 10) (v := s1) (ty := .boolean) (C := RX10) (T := TX10) (N := 25) hx hb ht inX10 tyX10 tyX10_ok nmX10 hown hSt hP hS ks0 (by decide) (mk10 ks0) rfl 11 (by decide) (ht _ wf_RX10_108) rfl rfl (by decide +kernel) c_4.narrow c_4.fits (Nat.le_of_ble_eq_true rfl) (by rw [mk10 ks0]; simp [mu]) dX10_factor_129 (fun M_3 H locs eM_3 hP hS => ?_)
        have hw := hw M_3 eM_3
        refine lv_aload_n hx hb dX10_factor_132 rfl (lv_at hl 0 rfl) ?_
        refine lv_dup hx hb dX10_factor_133 rfl ?_
        refine mw_get (ci := 10) (v := .int (M_3 h 7)) (C := RX10) (T := TX10) (N := 25) hx hb ht inX10 hown hSt hP kh (by decide) (mk10 kh) rfl 7 (by decide) (ht _ wf_RX10_115) rfl rfl dX10_factor_134 ?_
        refine lv_aload_n hx hb dX10_factor_137 rfl (lv_at hl 0 rfl) ?_
        refine mw_get (ci := 10) (v := .int (M_3 h 11)) (C := RX10) (T := TX10) (N := 25) hx hb ht inX10 hown hSt hP kh (by decide) (mk10 kh) rfl 11 (by decide) (ht _ wf_RX10_108) rfl rfl dX10_factor_138 ?_
        refine lv_if_eq (tgt := 148) hx hb dX10_factor_141 (by decide) (fun c_5 => ?_) (fun c_5 => ?_)
        · have hw := hw.1 c_5
          refine lv_iconst (v := 0) hx hb dX10_factor_148 (by decide) ?_
          exact J_149 h (M_3 h 7) 0 M_3 _ _ _ kh hw hP hS (lv_sub hl [0] rfl)
        · have hw := hw.2 c_5
          refine lv_iconst (v := 1) hx hb dX10_factor_144 (by decide) ?_
          refine lv_goto (tgt := 149) hx hb dX10_factor_145 (by decide) ?_
          exact J_149 h (M_3 h 7) 1 M_3 _ _ _ kh hw hP hS (lv_sub hl [0] rfl)
      have J_128 : ∀ (s0 : Nat) (M : Mem) (H : Heap) (locs : List Loc) (ls : Array Slot), kdT s0 = 10 → b_X10_factor_128 g0 g1 g2 g3 g4 g5 h Q s0 M → va_P G.2.1 clsA (wl G M) H → va_S (inW G) s.heap H locs → lv_has ls 2 [(0, .ref (G.1 + h))] → W p l e (rgT (d + 1)) s m ([.ref (G.1 + h)] : List Value).toArray below meth c H locs 0 0 (MQ below (Pq G (Qv Q)) ([.ref (G.1 + h)] : List Value).toArray s 0 0 (inW G)) (F0 m 128 ls [.ref (G.1 + s0)]) := by
        intro s0 M H locs ls ks0 hw hP hS hl
        unfold b_X10_factor_128 at hw
        refine lv_iconst (v := 0) hx hb dX10_factor_128 (by decide) ?_
        exact J_129 s0 0 M _ _ _ ks0 hw hP hS (lv_sub hl [0] rfl)
      have J_43 : ∀ (v1 : Int32) (M : Mem) (H : Heap) (locs : List Loc) (ls : Array Slot), b_X10_factor_43 g0 g1 g2 g3 g4 g5 h Q v1 M → va_P G.2.1 clsA (wl G M) H → va_S (inW G) s.heap H locs → lv_has ls 2 [(0, .ref (G.1 + h)), (1, .int v1)] → W p l e (rgT (d + 1)) s m ([.ref (G.1 + h)] : List Value).toArray below meth c H locs 0 0 (MQ below (Pq G (Qv Q)) ([.ref (G.1 + h)] : List Value).toArray s 0 0 (inW G)) (F0 m 43 ls []) := by
        intro v1 M H locs ls  hw hP hS hl
        unfold b_X10_factor_43 at hw
        refine lv_aload_n hx hb dX10_factor_43 rfl (lv_at hl 0 rfl) ?_
        refine mw_get (ci := 10) (v := .int (M h 9)) (C := RX10) (T := TX10) (N := 25) hx hb ht inX10 hown hSt hP kh (by decide) (mk10 kh) rfl 9 (by decide) (ht _ wf_RX10_136) rfl rfl dX10_factor_44 ?_
        refine lv_iconst (v := 5) hx hb dX10_factor_47 (by decide) ?_
        refine lv_icmp_ne (tgt := 59) hx hb dX10_factor_48 (by decide) (fun c_6 => ?_) (fun c_6 => ?_)
        · have hw := hw.1 c_6
          refine lv_aload_n hx hb dX10_factor_59 rfl (lv_at hl 0 rfl) ?_
          refine lv_dup hx hb dX10_factor_60 rfl ?_
          refine mw_get (ci := 10) (v := .int (M h 9)) (C := RX10) (T := TX10) (N := 25) hx hb ht inX10 hown hSt hP kh (by decide) (mk10 kh) rfl 9 (by decide) (ht _ wf_RX10_136) rfl rfl dX10_factor_61 ?_
          refine lv_iconst (v := 1) hx hb dX10_factor_64 (by decide) ?_
          refine lv_iadd hx hb dX10_factor_65 ?_
          refine mw_put (ci := 10) (v := (M h 9) + 1) (ty := .int) (C := RX10) (T := TX10) (N := 25) hx hb ht inX10 tyX10 tyX10_ok nmX10 hown hSt hP hS kh (by decide) (mk10 kh) rfl 9 (by decide) (ht _ wf_RX10_136) rfl rfl (by decide +kernel) (vp_nar_int _) rfl (Nat.le_of_ble_eq_true rfl) (by rw [mk10 kh]; simp [mu]) dX10_factor_66 (fun M_7 H locs eM_7 hP hS => ?_)
          have hw := hw M_7 eM_7
          refine lv_aload_n hx hb dX10_factor_69 rfl (lv_at hl 0 rfl) ?_
          refine lv_dup hx hb dX10_factor_70 rfl ?_
          refine mw_get (ci := 10) (v := .int (M_7 h 7)) (C := RX10) (T := TX10) (N := 25) hx hb ht inX10 hown hSt hP kh (by decide) (mk10 kh) rfl 7 (by decide) (ht _ wf_RX10_115) rfl rfl dX10_factor_71 ?_
          refine lv_iconst (v := 1) hx hb dX10_factor_74 (by decide) ?_
          refine lv_iadd hx hb dX10_factor_75 ?_
          refine mw_put (ci := 10) (v := (M_7 h 7) + 1) (ty := .int) (C := RX10) (T := TX10) (N := 25) hx hb ht inX10 tyX10 tyX10_ok nmX10 hown hSt hP hS kh (by decide) (mk10 kh) rfl 7 (by decide) (ht _ wf_RX10_115) rfl rfl (by decide +kernel) (vp_nar_int _) rfl (Nat.le_of_ble_eq_true rfl) (by rw [mk10 kh]; simp [mu]) dX10_factor_76 (fun M_8 H locs eM_8 hP hS => ?_)
          have hw := hw M_8 eM_8
          refine lv_iload_n hx hb dX10_factor_79 rfl (lv_at hl 1 rfl) ?_
          refine lv_bipush (v := 33) hx hb dX10_factor_80 (by decide) ?_
          refine lv_icmp_ne (tgt := 99) hx hb dX10_factor_82 (by decide) (fun c_9 => ?_) (fun c_9 => ?_)
          · have hw := hw.1 c_9
            refine lv_aload_n hx hb dX10_factor_99 rfl (lv_at hl 0 rfl) ?_
            refine mw_V (As := []) (rest := []) (T := TX10) (N := 25) (n := 0) ⟨hx, hb, hml, hown, hts⟩ (ih.2.2.2.2.2 h M_8 _ hw) wm_RX10_142 wi_yX10_whole wv_yX10_whole wn_RX10 wc_yX10_whole (by decide) (by constructor <;> (simp only [rgT]; omega)) ⟨rfl, rfl⟩ kh (by decide) (mk10 kh) rfl hSt hTb hP hS rfl hl.1 rfl (Nat.le_of_ble_eq_true rfl) dX10_factor_100 ⟨Nat.le_refl 0, Nat.le_refl 0⟩ (fun rr_ M_10 H locs hq hP hS => ?_)
            obtain ⟨rfl, hw⟩ := hq
            refine lv_aload_n hx hb dX10_factor_103 rfl (lv_at hl 0 rfl) ?_
            refine lv_aload_n hx hb dX10_factor_104 rfl (lv_at hl 0 rfl) ?_
            refine mw_get (ci := 10) (v := .int (M_10 h 11)) (C := RX10) (T := TX10) (N := 25) hx hb ht inX10 hown hSt hP kh (by decide) (mk10 kh) rfl 11 (by decide) (ht _ wf_RX10_108) rfl rfl dX10_factor_105 ?_
            refine lv_if_eq (tgt := 128) hx hb dX10_factor_108 (by decide) (fun c_11 => ?_) (fun c_11 => ?_)
            · have hw := hw.1 c_11
              exact J_128 h M_10 _ _ _ kh hw hP hS (lv_sub hl [0] rfl)
            · have hw := hw.2 c_11
              refine lv_aload_n hx hb dX10_factor_111 rfl (lv_at hl 0 rfl) ?_
              refine lv_aload_n hx hb dX10_factor_112 rfl (lv_at hl 0 rfl) ?_
              refine mw_get (ci := 10) (v := .int (M_10 h 7)) (C := RX10) (T := TX10) (N := 25) hx hb ht inX10 hown hSt hP kh (by decide) (mk10 kh) rfl 7 (by decide) (ht _ wf_RX10_115) rfl rfl dX10_factor_113 ?_
              refine mw_V (As := [.int (M_10 h 7)]) (rest := [.ref (G.1 + h)]) (T := TX10) (N := 25) (n := 1) ⟨hx, hb, hml, hown, hts⟩ (so_X10_byteAt l G h (M_10 h 7) M_10 _ hw) wm_RX10_117 wi_yX10_byteAt wv_yX10_byteAt wn_RX10 wc_yX10_byteAt (by decide) (by constructor <;> (simp only [rgT]; omega)) ⟨rfl, rfl⟩ kh (by decide) (mk10 kh) rfl hSt hTb hP hS rfl hl.1 rfl (Nat.le_of_ble_eq_true rfl) dX10_factor_116 ⟨Nat.le_refl 0, Nat.le_refl 0⟩ (fun rr_ M_12 H locs hq hP hS => ?_)
              obtain ⟨r_13, rfl, hw⟩ := hq
              refine lv_bipush (v := 41) hx hb dX10_factor_119 (by decide) ?_
              refine lv_icmp_ne (tgt := 128) hx hb dX10_factor_121 (by decide) (fun c_14 => ?_) (fun c_14 => ?_)
              · have hw := hw.1 c_14
                exact J_128 h M_12 _ _ _ kh hw hP hS (lv_sub hl [0] rfl)
              · have hw := hw.2 c_14
                refine lv_iconst (v := 1) hx hb dX10_factor_124 (by decide) ?_
                refine lv_goto (tgt := 129) hx hb dX10_factor_125 (by decide) ?_
                exact J_129 h 1 M_12 _ _ _ kh hw hP hS (lv_sub hl [0] rfl)
          · have hw := hw.2 c_9
            refine lv_aload_n hx hb dX10_factor_85 rfl (lv_at hl 0 rfl) ?_
            refine mw_V (As := []) (rest := []) (T := TX10) (N := 25) (n := 0) ⟨hx, hb, hml, hown, hts⟩ (ih.1 h M_8 _ hw) wm_RX10_139 wi_yX10_factor wv_yX10_factor wn_RX10 wc_yX10_factor (by decide) (by constructor <;> (simp only [rgT]; omega)) ⟨rfl, rfl⟩ kh (by decide) (mk10 kh) rfl hSt hTb hP hS rfl hl.1 rfl (Nat.le_of_ble_eq_true rfl) dX10_factor_86 ⟨Nat.le_refl 0, Nat.le_refl 0⟩ (fun rr_ M_15 H locs hq hP hS => ?_)
            obtain ⟨rfl, hw⟩ := hq
            refine lv_aload_n hx hb dX10_factor_89 rfl (lv_at hl 0 rfl) ?_
            refine lv_sipush (v := 20033) hx hb dX10_factor_90 (by decide) ?_
            refine mw_V (As := [.int 20033]) (rest := []) (T := TX10) (N := 25) (n := 1) ⟨hx, hb, hml, hown, hts⟩ (so_X10_adds l G h 20033 M_15 _ hw) wm_RX10_123 wi_yX10_adds wv_yX10_adds wn_RX10 wc_yX10_adds (by decide) (by constructor <;> (simp only [rgT]; omega)) ⟨rfl, rfl⟩ kh (by decide) (mk10 kh) rfl hSt hTb hP hS rfl hl.1 rfl (Nat.le_of_ble_eq_true rfl) dX10_factor_93 ⟨Nat.le_refl 0, Nat.le_refl 0⟩ (fun rr_ M_16 H locs hq hP hS => ?_)
            obtain ⟨rfl, hw⟩ := hq
            refine lv_goto (tgt := 153) hx hb dX10_factor_96 (by decide) ?_
            exact J_153 M_16 _ _ _ hw hP hS (lv_sub hl [0] rfl)
        · have hw := hw.2 c_6
          refine lv_aload_n hx hb dX10_factor_51 rfl (lv_at hl 0 rfl) ?_
          refine lv_iconst (v := 0) hx hb dX10_factor_52 (by decide) ?_
          refine mw_put (ci := 10) (v := 0) (ty := .boolean) (C := RX10) (T := TX10) (N := 25) hx hb ht inX10 tyX10 tyX10_ok nmX10 hown hSt hP hS kh (by decide) (mk10 kh) rfl 11 (by decide) (ht _ wf_RX10_108) rfl rfl (by decide +kernel) (by decide) (by decide) (Nat.le_of_ble_eq_true rfl) (by rw [mk10 kh]; simp [mu]) dX10_factor_53 (fun M_17 H locs eM_17 hP hS => ?_)
          have hw := hw M_17 eM_17
          refine lv_goto (tgt := 163) hx hb dX10_factor_56 (by decide) ?_
          exact W.vret hx hb hr (mw_end hP hSt hTb hS ⟨rfl, hw⟩) hS.2.2 dX10_factor_163
      refine lv_aload_n hx hb dX10_factor_0 rfl (lv_at hl 0 rfl) ?_
      refine lv_aload_n hx hb dX10_factor_1 rfl (lv_at hl 0 rfl) ?_
      refine mw_get (ci := 10) (v := .int (M h 7)) (C := RX10) (T := TX10) (N := 25) hx hb ht inX10 hown hSt hP kh (by decide) (mk10 kh) rfl 7 (by decide) (ht _ wf_RX10_115) rfl rfl dX10_factor_2 ?_
      refine mw_V (As := [.int (M h 7)]) (rest := []) (T := TX10) (N := 25) (n := 1) ⟨hx, hb, hml, hown, hts⟩ (so_X10_byteAt l G h (M h 7) M _ hw) wm_RX10_117 wi_yX10_byteAt wv_yX10_byteAt wn_RX10 wc_yX10_byteAt (by decide) (by constructor <;> (simp only [rgT]; omega)) ⟨rfl, rfl⟩ kh (by decide) (mk10 kh) rfl hSt hTb hP hS rfl hl.1 rfl (Nat.le_of_ble_eq_true rfl) dX10_factor_5 ⟨Nat.le_refl 0, Nat.le_refl 0⟩ (fun rr_ M_18 H locs hq hP hS => ?_)
      obtain ⟨r_19, rfl, hw⟩ := hq
      refine lv_istore_n (lv' := [(1, .int r_19), (0, .ref (G.1 + h))]) hx hb dX10_factor_8 rfl hl (by decide) rfl (fun ls hl => ?_)
      refine lv_iload_n hx hb dX10_factor_9 rfl (lv_at hl 0 rfl) ?_
      refine mw_Sx (As := [.int r_19]) (rest := []) (n := 1) ⟨hx, hb, hml, hown, hts⟩ (so_X10_isDigit l G r_19 M_18 _ hw) wm_RX10_120 wt_yX10_isDigit wn_RX10 wc_yX10_isDigit (by decide) (by constructor <;> (simp only [rgT]; omega)) ⟨rfl, rfl⟩ hSt hTb hP hS rfl hl.1 rfl (Nat.le_of_ble_eq_true rfl) dX10_factor_10 ⟨Nat.le_refl 0, Nat.le_refl 0⟩ (fun rr_ M_20 H locs hq hP hS => ?_)
      obtain ⟨r_21, rfl, hw⟩ := hq
      refine lv_if_eq (tgt := 23) hx hb dX10_factor_13 (by decide) (fun c_22 => ?_) (fun c_22 => ?_)
      · have hw := hw.1 c_22
        refine lv_iload_n hx hb dX10_factor_23 rfl (lv_at hl 0 rfl) ?_
        refine lv_bipush (v := 33) hx hb dX10_factor_24 (by decide) ?_
        refine lv_icmp_eq (tgt := 43) hx hb dX10_factor_26 (by decide) (fun c_23 => ?_) (fun c_23 => ?_)
        · have hw := hw.1 c_23
          exact J_43 r_19 M_20 _ _ _ hw hP hS (lv_sub hl [1, 0] rfl)
        · have hw := hw.2 c_23
          refine lv_iload_n hx hb dX10_factor_29 rfl (lv_at hl 0 rfl) ?_
          refine lv_bipush (v := 40) hx hb dX10_factor_30 (by decide) ?_
          refine lv_icmp_eq (tgt := 43) hx hb dX10_factor_32 (by decide) (fun c_24 => ?_) (fun c_24 => ?_)
          · have hw := hw.1 c_24
            exact J_43 r_19 M_20 _ _ _ hw hP hS (lv_sub hl [1, 0] rfl)
          · have hw := hw.2 c_24
            refine lv_aload_n hx hb dX10_factor_35 rfl (lv_at hl 1 rfl) ?_
            refine lv_iload_n hx hb dX10_factor_36 rfl (lv_at hl 0 rfl) ?_
            refine mw_V (As := [.int r_19]) (rest := []) (T := TX10) (N := 25) (n := 1) ⟨hx, hb, hml, hown, hts⟩ (so_X10_named l G h r_19 M_20 _ hw) wm_RX10_133 wi_yX10_named wv_yX10_named wn_RX10 wc_yX10_named (by decide) (by constructor <;> (simp only [rgT]; omega)) ⟨rfl, rfl⟩ kh (by decide) (mk10 kh) rfl hSt hTb hP hS rfl hl.1 rfl (Nat.le_of_ble_eq_true rfl) dX10_factor_37 ⟨Nat.le_refl 0, Nat.le_refl 0⟩ (fun rr_ M_25 H locs hq hP hS => ?_)
            obtain ⟨rfl, hw⟩ := hq
            refine lv_goto (tgt := 163) hx hb dX10_factor_40 (by decide) ?_
            exact W.vret hx hb hr (mw_end hP hSt hTb hS ⟨rfl, hw⟩) hS.2.2 dX10_factor_163
      · have hw := hw.2 c_22
        refine lv_aload_n hx hb dX10_factor_16 rfl (lv_at hl 1 rfl) ?_
        refine mw_V (As := []) (rest := []) (T := TX10) (N := 25) (n := 0) ⟨hx, hb, hml, hown, hts⟩ (so_X10_number l G h M_20 _ hw) wm_RX10_130 wi_yX10_number wv_yX10_number wn_RX10 wc_yX10_number (by decide) (by constructor <;> (simp only [rgT]; omega)) ⟨rfl, rfl⟩ kh (by decide) (mk10 kh) rfl hSt hTb hP hS rfl hl.1 rfl (Nat.le_of_ble_eq_true rfl) dX10_factor_17 ⟨Nat.le_refl 0, Nat.le_refl 0⟩ (fun rr_ M_26 H locs hq hP hS => ?_)
        obtain ⟨rfl, hw⟩ := hq
        refine lv_goto (tgt := 163) hx hb dX10_factor_20 (by decide) ?_
        exact W.vret hx hb hr (mw_end hP hSt hTb hS ⟨rfl, hw⟩) hS.2.2 dX10_factor_163
    · intro h M Q hw
      have hw : wb_X10_product g0 g1 g2 g3 g4 g5 h M Q := by rw [eg0]; rw [eg1]; rw [eg2]; rw [eg3]; rw [eg4]; rw [eg5]; exact hw
      unfold wb_X10_product at hw
      obtain ⟨kh, hw⟩ := hw
      refine ct_of (by decide) (Nat.le_of_ble_eq_true rfl) ?_
      intro p e s m below meth c E_ ls H hl hP hS
      obtain ⟨hx, hb, hml, hown, hts, ht, hr, hlocks, hSt, hTb⟩ := E_
      have hl : lv_has ls 2 [(0, .ref (G.1 + h))] := hl
      have L_4 : ∀ (n4 : Nat)  (M : Mem) (H : Heap) (locs : List Loc) (ls : Array Slot), l_X10_product_4 g0 g1 g2 g3 g4 g5 h Q n4  M → va_P G.2.1 clsA (wl G M) H → va_S (inW G) s.heap H locs → lv_has ls 2 [(0, .ref (G.1 + h))] → W p l e (rgT (d + 1)) s m ([.ref (G.1 + h)] : List Value).toArray below meth c H locs 0 0 (MQ below (Pq G (Qv Q)) ([.ref (G.1 + h)] : List Value).toArray s 0 0 (inW G)) (F0 m 4 ls []) := by
        intro   n4
        induction n4 with
        | zero => intro  M H locs ls  hw hP hS hl; exact False.elim hw
        | succ n4 ih4 =>
          have J_50 : ∀  (M : Mem) (H : Heap) (locs : List Loc) (ls : Array Slot), b_X10_product_50 g0 g1 g2 g3 g4 g5 h Q (l_X10_product_4 g0 g1 g2 g3 g4 g5 h Q n4) M → va_P G.2.1 clsA (wl G M) H → va_S (inW G) s.heap H locs → lv_has ls 2 [(0, .ref (G.1 + h))] → W p l e (rgT (d + 1)) s m ([.ref (G.1 + h)] : List Value).toArray below meth c H locs 0 0 (MQ below (Pq G (Qv Q)) ([.ref (G.1 + h)] : List Value).toArray s 0 0 (inW G)) (F0 m 50 ls []) := by
            intro  M H locs ls  hw hP hS hl
            unfold b_X10_product_50 at hw
            refine lv_aload_n hx hb dX10_product_50 rfl (lv_at hl 0 rfl) ?_
            refine lv_aload_n hx hb dX10_product_51 rfl (lv_at hl 0 rfl) ?_
            refine mw_get (ci := 10) (v := .int (M h 7)) (C := RX10) (T := TX10) (N := 25) hx hb ht inX10 hown hSt hP kh (by decide) (mk10 kh) rfl 7 (by decide) (ht _ wf_RX10_115) rfl rfl dX10_product_52 ?_
            refine mw_V (As := [.int (M h 7)]) (rest := []) (T := TX10) (N := 25) (n := 1) ⟨hx, hb, hml, hown, hts⟩ (so_X10_byteAt l G h (M h 7) M _ hw) wm_RX10_117 wi_yX10_byteAt wv_yX10_byteAt wn_RX10 wc_yX10_byteAt (by decide) (by constructor <;> (simp only [rgT]; omega)) ⟨rfl, rfl⟩ kh (by decide) (mk10 kh) rfl hSt hTb hP hS rfl hl.1 rfl (Nat.le_of_ble_eq_true rfl) dX10_product_55 ⟨Nat.le_refl 0, Nat.le_refl 0⟩ (fun rr_ M_1 H locs hq hP hS => ?_)
            obtain ⟨r_2, rfl, hw⟩ := hq
            refine lv_istore_n (lv' := [(1, .int r_2), (0, .ref (G.1 + h))]) hx hb dX10_product_58 rfl hl (by decide) rfl (fun ls hl => ?_)
            refine lv_aload_n hx hb dX10_product_59 rfl (lv_at hl 1 rfl) ?_
            refine lv_dup hx hb dX10_product_60 rfl ?_
            refine mw_get (ci := 10) (v := .int (M_1 h 7)) (C := RX10) (T := TX10) (N := 25) hx hb ht inX10 hown hSt hP kh (by decide) (mk10 kh) rfl 7 (by decide) (ht _ wf_RX10_115) rfl rfl dX10_product_61 ?_
            refine lv_iconst (v := 1) hx hb dX10_product_64 (by decide) ?_
            refine lv_iadd hx hb dX10_product_65 ?_
            refine mw_put (ci := 10) (v := (M_1 h 7) + 1) (ty := .int) (C := RX10) (T := TX10) (N := 25) hx hb ht inX10 tyX10 tyX10_ok nmX10 hown hSt hP hS kh (by decide) (mk10 kh) rfl 7 (by decide) (ht _ wf_RX10_115) rfl rfl (by decide +kernel) (vp_nar_int _) rfl (Nat.le_of_ble_eq_true rfl) (by rw [mk10 kh]; simp [mu]) dX10_product_66 (fun M_3 H locs eM_3 hP hS => ?_)
            have hw := hw M_3 eM_3
            refine lv_aload_n hx hb dX10_product_69 rfl (lv_at hl 1 rfl) ?_
            refine mw_V (As := []) (rest := []) (T := TX10) (N := 25) (n := 0) ⟨hx, hb, hml, hown, hts⟩ (ih.1 h M_3 _ hw) wm_RX10_139 wi_yX10_factor wv_yX10_factor wn_RX10 wc_yX10_factor (by decide) (by constructor <;> (simp only [rgT]; omega)) ⟨rfl, rfl⟩ kh (by decide) (mk10 kh) rfl hSt hTb hP hS rfl hl.1 rfl (Nat.le_of_ble_eq_true rfl) dX10_product_70 ⟨Nat.le_refl 0, Nat.le_refl 0⟩ (fun rr_ M_4 H locs hq hP hS => ?_)
            obtain ⟨rfl, hw⟩ := hq
            refine lv_aload_n hx hb dX10_product_73 rfl (lv_at hl 1 rfl) ?_
            refine lv_sipush (v := 20000) hx hb dX10_product_74 (by decide) ?_
            refine lv_iload_n hx hb dX10_product_77 rfl (lv_at hl 0 rfl) ?_
            refine lv_iadd hx hb dX10_product_78 ?_
            refine mw_V (As := [.int (20000 + r_2)]) (rest := []) (T := TX10) (N := 25) (n := 1) ⟨hx, hb, hml, hown, hts⟩ (so_X10_adds l G h (20000 + r_2) M_4 _ hw) wm_RX10_123 wi_yX10_adds wv_yX10_adds wn_RX10 wc_yX10_adds (by decide) (by constructor <;> (simp only [rgT]; omega)) ⟨rfl, rfl⟩ kh (by decide) (mk10 kh) rfl hSt hTb hP hS rfl hl.1 rfl (Nat.le_of_ble_eq_true rfl) dX10_product_79 ⟨Nat.le_refl 0, Nat.le_refl 0⟩ (fun rr_ M_5 H locs hq hP hS => ?_)
            obtain ⟨rfl, hw⟩ := hq
            refine lv_goto (tgt := 4) hx hb dX10_product_82 (by decide) ?_
            exact ih4 M_5 _ _ _ hw hP hS (lv_sub hl [1] rfl)
          intro  M H locs ls  hw hP hS hl
          have hw : B_X10_product_4 g0 g1 g2 g3 g4 g5 h Q (l_X10_product_4 g0 g1 g2 g3 g4 g5 h Q n4)  M := hw
          unfold B_X10_product_4 at hw
          refine lv_aload_n hx hb dX10_product_4 rfl (lv_at hl 0 rfl) ?_
          refine mw_get (ci := 10) (v := .int (M h 11)) (C := RX10) (T := TX10) (N := 25) hx hb ht inX10 hown hSt hP kh (by decide) (mk10 kh) rfl 11 (by decide) (ht _ wf_RX10_108) rfl rfl dX10_product_5 ?_
          refine lv_if_eq (tgt := 85) hx hb dX10_product_8 (by decide) (fun c_6 => ?_) (fun c_6 => ?_)
          · have hw := hw.1 c_6
            exact W.vret hx hb hr (mw_end hP hSt hTb hS ⟨rfl, hw⟩) hS.2.2 dX10_product_85
          · have hw := hw.2 c_6
            refine lv_aload_n hx hb dX10_product_11 rfl (lv_at hl 0 rfl) ?_
            refine lv_aload_n hx hb dX10_product_12 rfl (lv_at hl 0 rfl) ?_
            refine mw_get (ci := 10) (v := .int (M h 7)) (C := RX10) (T := TX10) (N := 25) hx hb ht inX10 hown hSt hP kh (by decide) (mk10 kh) rfl 7 (by decide) (ht _ wf_RX10_115) rfl rfl dX10_product_13 ?_
            refine mw_V (As := [.int (M h 7)]) (rest := []) (T := TX10) (N := 25) (n := 1) ⟨hx, hb, hml, hown, hts⟩ (so_X10_byteAt l G h (M h 7) M _ hw) wm_RX10_117 wi_yX10_byteAt wv_yX10_byteAt wn_RX10 wc_yX10_byteAt (by decide) (by constructor <;> (simp only [rgT]; omega)) ⟨rfl, rfl⟩ kh (by decide) (mk10 kh) rfl hSt hTb hP hS rfl hl.1 rfl (Nat.le_of_ble_eq_true rfl) dX10_product_16 ⟨Nat.le_refl 0, Nat.le_refl 0⟩ (fun rr_ M_7 H locs hq hP hS => ?_)
            obtain ⟨r_8, rfl, hw⟩ := hq
            refine lv_bipush (v := 42) hx hb dX10_product_19 (by decide) ?_
            refine lv_icmp_eq (tgt := 50) hx hb dX10_product_21 (by decide) (fun c_9 => ?_) (fun c_9 => ?_)
            · have hw := hw.1 c_9
              exact J_50 M_7 _ _ _ hw hP hS (lv_sub hl [0] rfl)
            · have hw := hw.2 c_9
              refine lv_aload_n hx hb dX10_product_24 rfl (lv_at hl 0 rfl) ?_
              refine lv_aload_n hx hb dX10_product_25 rfl (lv_at hl 0 rfl) ?_
              refine mw_get (ci := 10) (v := .int (M_7 h 7)) (C := RX10) (T := TX10) (N := 25) hx hb ht inX10 hown hSt hP kh (by decide) (mk10 kh) rfl 7 (by decide) (ht _ wf_RX10_115) rfl rfl dX10_product_26 ?_
              refine mw_V (As := [.int (M_7 h 7)]) (rest := []) (T := TX10) (N := 25) (n := 1) ⟨hx, hb, hml, hown, hts⟩ (so_X10_byteAt l G h (M_7 h 7) M_7 _ hw) wm_RX10_117 wi_yX10_byteAt wv_yX10_byteAt wn_RX10 wc_yX10_byteAt (by decide) (by constructor <;> (simp only [rgT]; omega)) ⟨rfl, rfl⟩ kh (by decide) (mk10 kh) rfl hSt hTb hP hS rfl hl.1 rfl (Nat.le_of_ble_eq_true rfl) dX10_product_29 ⟨Nat.le_refl 0, Nat.le_refl 0⟩ (fun rr_ M_10 H locs hq hP hS => ?_)
              obtain ⟨r_11, rfl, hw⟩ := hq
              refine lv_bipush (v := 47) hx hb dX10_product_32 (by decide) ?_
              refine lv_icmp_eq (tgt := 50) hx hb dX10_product_34 (by decide) (fun c_12 => ?_) (fun c_12 => ?_)
              · have hw := hw.1 c_12
                exact J_50 M_10 _ _ _ hw hP hS (lv_sub hl [0] rfl)
              · have hw := hw.2 c_12
                refine lv_aload_n hx hb dX10_product_37 rfl (lv_at hl 0 rfl) ?_
                refine lv_aload_n hx hb dX10_product_38 rfl (lv_at hl 0 rfl) ?_
                refine mw_get (ci := 10) (v := .int (M_10 h 7)) (C := RX10) (T := TX10) (N := 25) hx hb ht inX10 hown hSt hP kh (by decide) (mk10 kh) rfl 7 (by decide) (ht _ wf_RX10_115) rfl rfl dX10_product_39 ?_
                refine mw_V (As := [.int (M_10 h 7)]) (rest := []) (T := TX10) (N := 25) (n := 1) ⟨hx, hb, hml, hown, hts⟩ (so_X10_byteAt l G h (M_10 h 7) M_10 _ hw) wm_RX10_117 wi_yX10_byteAt wv_yX10_byteAt wn_RX10 wc_yX10_byteAt (by decide) (by constructor <;> (simp only [rgT]; omega)) ⟨rfl, rfl⟩ kh (by decide) (mk10 kh) rfl hSt hTb hP hS rfl hl.1 rfl (Nat.le_of_ble_eq_true rfl) dX10_product_42 ⟨Nat.le_refl 0, Nat.le_refl 0⟩ (fun rr_ M_13 H locs hq hP hS => ?_)
                obtain ⟨r_14, rfl, hw⟩ := hq
                refine lv_bipush (v := 37) hx hb dX10_product_45 (by decide) ?_
                refine lv_icmp_ne (tgt := 85) hx hb dX10_product_47 (by decide) (fun c_15 => ?_) (fun c_15 => ?_)
                · have hw := hw.1 c_15
                  exact W.vret hx hb hr (mw_end hP hSt hTb hS ⟨rfl, hw⟩) hS.2.2 dX10_product_85
                · have hw := hw.2 c_15
                  exact J_50 M_13 _ _ _ hw hP hS (lv_sub hl [0] rfl)
      refine lv_aload_n hx hb dX10_product_0 rfl (lv_at hl 0 rfl) ?_
      refine mw_V (As := []) (rest := []) (T := TX10) (N := 25) (n := 0) ⟨hx, hb, hml, hown, hts⟩ (ih.1 h M _ hw) wm_RX10_139 wi_yX10_factor wv_yX10_factor wn_RX10 wc_yX10_factor (by decide) (by constructor <;> (simp only [rgT]; omega)) ⟨rfl, rfl⟩ kh (by decide) (mk10 kh) rfl hSt hTb hP hS rfl hl.1 rfl (Nat.le_of_ble_eq_true rfl) dX10_product_1 ⟨Nat.le_refl 0, Nat.le_refl 0⟩ (fun rr_ M_16 H locs hq hP hS => ?_)
      obtain ⟨rfl, hw⟩ := hq
      obtain ⟨n_, hw⟩ := hw
      exact L_4 n_ M_16 _ _ _ hw hP hS (lv_sub hl [0] rfl)
    · intro h M Q hw
      have hw : wb_X10_sum g0 g1 g2 g3 g4 g5 h M Q := by rw [eg0]; rw [eg1]; rw [eg2]; rw [eg3]; rw [eg4]; rw [eg5]; exact hw
      unfold wb_X10_sum at hw
      obtain ⟨kh, hw⟩ := hw
      refine ct_of (by decide) (Nat.le_of_ble_eq_true rfl) ?_
      intro p e s m below meth c E_ ls H hl hP hS
      obtain ⟨hx, hb, hml, hown, hts, ht, hr, hlocks, hSt, hTb⟩ := E_
      have hl : lv_has ls 2 [(0, .ref (G.1 + h))] := hl
      have L_4 : ∀ (n4 : Nat)  (M : Mem) (H : Heap) (locs : List Loc) (ls : Array Slot), l_X10_sum_4 g0 g1 g2 g3 g4 g5 h Q n4  M → va_P G.2.1 clsA (wl G M) H → va_S (inW G) s.heap H locs → lv_has ls 2 [(0, .ref (G.1 + h))] → W p l e (rgT (d + 1)) s m ([.ref (G.1 + h)] : List Value).toArray below meth c H locs 0 0 (MQ below (Pq G (Qv Q)) ([.ref (G.1 + h)] : List Value).toArray s 0 0 (inW G)) (F0 m 4 ls []) := by
        intro   n4
        induction n4 with
        | zero => intro  M H locs ls  hw hP hS hl; exact False.elim hw
        | succ n4 ih4 =>
          have J_37 : ∀  (M : Mem) (H : Heap) (locs : List Loc) (ls : Array Slot), b_X10_sum_37 g0 g1 g2 g3 g4 g5 h Q (l_X10_sum_4 g0 g1 g2 g3 g4 g5 h Q n4) M → va_P G.2.1 clsA (wl G M) H → va_S (inW G) s.heap H locs → lv_has ls 2 [(0, .ref (G.1 + h))] → W p l e (rgT (d + 1)) s m ([.ref (G.1 + h)] : List Value).toArray below meth c H locs 0 0 (MQ below (Pq G (Qv Q)) ([.ref (G.1 + h)] : List Value).toArray s 0 0 (inW G)) (F0 m 37 ls []) := by
            intro  M H locs ls  hw hP hS hl
            unfold b_X10_sum_37 at hw
            refine lv_aload_n hx hb dX10_sum_37 rfl (lv_at hl 0 rfl) ?_
            refine lv_aload_n hx hb dX10_sum_38 rfl (lv_at hl 0 rfl) ?_
            refine mw_get (ci := 10) (v := .int (M h 7)) (C := RX10) (T := TX10) (N := 25) hx hb ht inX10 hown hSt hP kh (by decide) (mk10 kh) rfl 7 (by decide) (ht _ wf_RX10_115) rfl rfl dX10_sum_39 ?_
            refine mw_V (As := [.int (M h 7)]) (rest := []) (T := TX10) (N := 25) (n := 1) ⟨hx, hb, hml, hown, hts⟩ (so_X10_byteAt l G h (M h 7) M _ hw) wm_RX10_117 wi_yX10_byteAt wv_yX10_byteAt wn_RX10 wc_yX10_byteAt (by decide) (by constructor <;> (simp only [rgT]; omega)) ⟨rfl, rfl⟩ kh (by decide) (mk10 kh) rfl hSt hTb hP hS rfl hl.1 rfl (Nat.le_of_ble_eq_true rfl) dX10_sum_42 ⟨Nat.le_refl 0, Nat.le_refl 0⟩ (fun rr_ M_1 H locs hq hP hS => ?_)
            obtain ⟨r_2, rfl, hw⟩ := hq
            refine lv_istore_n (lv' := [(1, .int r_2), (0, .ref (G.1 + h))]) hx hb dX10_sum_45 rfl hl (by decide) rfl (fun ls hl => ?_)
            refine lv_aload_n hx hb dX10_sum_46 rfl (lv_at hl 1 rfl) ?_
            refine lv_dup hx hb dX10_sum_47 rfl ?_
            refine mw_get (ci := 10) (v := .int (M_1 h 7)) (C := RX10) (T := TX10) (N := 25) hx hb ht inX10 hown hSt hP kh (by decide) (mk10 kh) rfl 7 (by decide) (ht _ wf_RX10_115) rfl rfl dX10_sum_48 ?_
            refine lv_iconst (v := 1) hx hb dX10_sum_51 (by decide) ?_
            refine lv_iadd hx hb dX10_sum_52 ?_
            refine mw_put (ci := 10) (v := (M_1 h 7) + 1) (ty := .int) (C := RX10) (T := TX10) (N := 25) hx hb ht inX10 tyX10 tyX10_ok nmX10 hown hSt hP hS kh (by decide) (mk10 kh) rfl 7 (by decide) (ht _ wf_RX10_115) rfl rfl (by decide +kernel) (vp_nar_int _) rfl (Nat.le_of_ble_eq_true rfl) (by rw [mk10 kh]; simp [mu]) dX10_sum_53 (fun M_3 H locs eM_3 hP hS => ?_)
            have hw := hw M_3 eM_3
            refine lv_aload_n hx hb dX10_sum_56 rfl (lv_at hl 1 rfl) ?_
            refine mw_V (As := []) (rest := []) (T := TX10) (N := 25) (n := 0) ⟨hx, hb, hml, hown, hts⟩ (ih.2.1 h M_3 _ hw) wm_RX10_145 wi_yX10_product wv_yX10_product wn_RX10 wc_yX10_product (by decide) (by constructor <;> (simp only [rgT]; omega)) ⟨rfl, rfl⟩ kh (by decide) (mk10 kh) rfl hSt hTb hP hS rfl hl.1 rfl (Nat.le_of_ble_eq_true rfl) dX10_sum_57 ⟨Nat.le_refl 0, Nat.le_refl 0⟩ (fun rr_ M_4 H locs hq hP hS => ?_)
            obtain ⟨rfl, hw⟩ := hq
            refine lv_aload_n hx hb dX10_sum_60 rfl (lv_at hl 1 rfl) ?_
            refine lv_sipush (v := 20000) hx hb dX10_sum_61 (by decide) ?_
            refine lv_iload_n hx hb dX10_sum_64 rfl (lv_at hl 0 rfl) ?_
            refine lv_iadd hx hb dX10_sum_65 ?_
            refine mw_V (As := [.int (20000 + r_2)]) (rest := []) (T := TX10) (N := 25) (n := 1) ⟨hx, hb, hml, hown, hts⟩ (so_X10_adds l G h (20000 + r_2) M_4 _ hw) wm_RX10_123 wi_yX10_adds wv_yX10_adds wn_RX10 wc_yX10_adds (by decide) (by constructor <;> (simp only [rgT]; omega)) ⟨rfl, rfl⟩ kh (by decide) (mk10 kh) rfl hSt hTb hP hS rfl hl.1 rfl (Nat.le_of_ble_eq_true rfl) dX10_sum_66 ⟨Nat.le_refl 0, Nat.le_refl 0⟩ (fun rr_ M_5 H locs hq hP hS => ?_)
            obtain ⟨rfl, hw⟩ := hq
            refine lv_goto (tgt := 4) hx hb dX10_sum_69 (by decide) ?_
            exact ih4 M_5 _ _ _ hw hP hS (lv_sub hl [1] rfl)
          intro  M H locs ls  hw hP hS hl
          have hw : B_X10_sum_4 g0 g1 g2 g3 g4 g5 h Q (l_X10_sum_4 g0 g1 g2 g3 g4 g5 h Q n4)  M := hw
          unfold B_X10_sum_4 at hw
          refine lv_aload_n hx hb dX10_sum_4 rfl (lv_at hl 0 rfl) ?_
          refine mw_get (ci := 10) (v := .int (M h 11)) (C := RX10) (T := TX10) (N := 25) hx hb ht inX10 hown hSt hP kh (by decide) (mk10 kh) rfl 11 (by decide) (ht _ wf_RX10_108) rfl rfl dX10_sum_5 ?_
          refine lv_if_eq (tgt := 72) hx hb dX10_sum_8 (by decide) (fun c_6 => ?_) (fun c_6 => ?_)
          · have hw := hw.1 c_6
            exact W.vret hx hb hr (mw_end hP hSt hTb hS ⟨rfl, hw⟩) hS.2.2 dX10_sum_72
          · have hw := hw.2 c_6
            refine lv_aload_n hx hb dX10_sum_11 rfl (lv_at hl 0 rfl) ?_
            refine lv_aload_n hx hb dX10_sum_12 rfl (lv_at hl 0 rfl) ?_
            refine mw_get (ci := 10) (v := .int (M h 7)) (C := RX10) (T := TX10) (N := 25) hx hb ht inX10 hown hSt hP kh (by decide) (mk10 kh) rfl 7 (by decide) (ht _ wf_RX10_115) rfl rfl dX10_sum_13 ?_
            refine mw_V (As := [.int (M h 7)]) (rest := []) (T := TX10) (N := 25) (n := 1) ⟨hx, hb, hml, hown, hts⟩ (so_X10_byteAt l G h (M h 7) M _ hw) wm_RX10_117 wi_yX10_byteAt wv_yX10_byteAt wn_RX10 wc_yX10_byteAt (by decide) (by constructor <;> (simp only [rgT]; omega)) ⟨rfl, rfl⟩ kh (by decide) (mk10 kh) rfl hSt hTb hP hS rfl hl.1 rfl (Nat.le_of_ble_eq_true rfl) dX10_sum_16 ⟨Nat.le_refl 0, Nat.le_refl 0⟩ (fun rr_ M_7 H locs hq hP hS => ?_)
            obtain ⟨r_8, rfl, hw⟩ := hq
            refine lv_bipush (v := 43) hx hb dX10_sum_19 (by decide) ?_
            refine lv_icmp_eq (tgt := 37) hx hb dX10_sum_21 (by decide) (fun c_9 => ?_) (fun c_9 => ?_)
            · have hw := hw.1 c_9
              exact J_37 M_7 _ _ _ hw hP hS (lv_sub hl [0] rfl)
            · have hw := hw.2 c_9
              refine lv_aload_n hx hb dX10_sum_24 rfl (lv_at hl 0 rfl) ?_
              refine lv_aload_n hx hb dX10_sum_25 rfl (lv_at hl 0 rfl) ?_
              refine mw_get (ci := 10) (v := .int (M_7 h 7)) (C := RX10) (T := TX10) (N := 25) hx hb ht inX10 hown hSt hP kh (by decide) (mk10 kh) rfl 7 (by decide) (ht _ wf_RX10_115) rfl rfl dX10_sum_26 ?_
              refine mw_V (As := [.int (M_7 h 7)]) (rest := []) (T := TX10) (N := 25) (n := 1) ⟨hx, hb, hml, hown, hts⟩ (so_X10_byteAt l G h (M_7 h 7) M_7 _ hw) wm_RX10_117 wi_yX10_byteAt wv_yX10_byteAt wn_RX10 wc_yX10_byteAt (by decide) (by constructor <;> (simp only [rgT]; omega)) ⟨rfl, rfl⟩ kh (by decide) (mk10 kh) rfl hSt hTb hP hS rfl hl.1 rfl (Nat.le_of_ble_eq_true rfl) dX10_sum_29 ⟨Nat.le_refl 0, Nat.le_refl 0⟩ (fun rr_ M_10 H locs hq hP hS => ?_)
              obtain ⟨r_11, rfl, hw⟩ := hq
              refine lv_bipush (v := 45) hx hb dX10_sum_32 (by decide) ?_
              refine lv_icmp_ne (tgt := 72) hx hb dX10_sum_34 (by decide) (fun c_12 => ?_) (fun c_12 => ?_)
              · have hw := hw.1 c_12
                exact W.vret hx hb hr (mw_end hP hSt hTb hS ⟨rfl, hw⟩) hS.2.2 dX10_sum_72
              · have hw := hw.2 c_12
                exact J_37 M_10 _ _ _ hw hP hS (lv_sub hl [0] rfl)
      refine lv_aload_n hx hb dX10_sum_0 rfl (lv_at hl 0 rfl) ?_
      refine mw_V (As := []) (rest := []) (T := TX10) (N := 25) (n := 0) ⟨hx, hb, hml, hown, hts⟩ (ih.2.1 h M _ hw) wm_RX10_145 wi_yX10_product wv_yX10_product wn_RX10 wc_yX10_product (by decide) (by constructor <;> (simp only [rgT]; omega)) ⟨rfl, rfl⟩ kh (by decide) (mk10 kh) rfl hSt hTb hP hS rfl hl.1 rfl (Nat.le_of_ble_eq_true rfl) dX10_sum_1 ⟨Nat.le_refl 0, Nat.le_refl 0⟩ (fun rr_ M_13 H locs hq hP hS => ?_)
      obtain ⟨rfl, hw⟩ := hq
      obtain ⟨n_, hw⟩ := hw
      exact L_4 n_ M_13 _ _ _ hw hP hS (lv_sub hl [0] rfl)
    · intro h M Q hw
      have hw : wb_X10_compared g0 g1 g2 g3 g4 g5 h M Q := by rw [eg0]; rw [eg1]; rw [eg2]; rw [eg3]; rw [eg4]; rw [eg5]; exact hw
      unfold wb_X10_compared at hw
      obtain ⟨kh, hw⟩ := hw
      refine ct_of (by decide) (Nat.le_of_ble_eq_true rfl) ?_
      intro p e s m below meth c E_ ls H hl hP hS
      obtain ⟨hx, hb, hml, hown, hts, ht, hr, hlocks, hSt, hTb⟩ := E_
      have hl : lv_has ls 2 [(0, .ref (G.1 + h))] := hl
      have J_42 : ∀ (v1 : Int32) (M : Mem) (H : Heap) (locs : List Loc) (ls : Array Slot), b_X10_compared_42 g0 g1 g2 g3 g4 g5 h Q v1 M → va_P G.2.1 clsA (wl G M) H → va_S (inW G) s.heap H locs → lv_has ls 2 [(0, .ref (G.1 + h)), (1, .int v1)] → W p l e (rgT (d + 1)) s m ([.ref (G.1 + h)] : List Value).toArray below meth c H locs 0 0 (MQ below (Pq G (Qv Q)) ([.ref (G.1 + h)] : List Value).toArray s 0 0 (inW G)) (F0 m 42 ls []) := by
        intro v1 M H locs ls  hw hP hS hl
        unfold b_X10_compared_42 at hw
        refine lv_aload_n hx hb dX10_compared_42 rfl (lv_at hl 0 rfl) ?_
        refine lv_dup hx hb dX10_compared_43 rfl ?_
        refine mw_get (ci := 10) (v := .int (M h 7)) (C := RX10) (T := TX10) (N := 25) hx hb ht inX10 hown hSt hP kh (by decide) (mk10 kh) rfl 7 (by decide) (ht _ wf_RX10_115) rfl rfl dX10_compared_44 ?_
        refine lv_iconst (v := 1) hx hb dX10_compared_47 (by decide) ?_
        refine lv_iadd hx hb dX10_compared_48 ?_
        refine mw_put (ci := 10) (v := (M h 7) + 1) (ty := .int) (C := RX10) (T := TX10) (N := 25) hx hb ht inX10 tyX10 tyX10_ok nmX10 hown hSt hP hS kh (by decide) (mk10 kh) rfl 7 (by decide) (ht _ wf_RX10_115) rfl rfl (by decide +kernel) (vp_nar_int _) rfl (Nat.le_of_ble_eq_true rfl) (by rw [mk10 kh]; simp [mu]) dX10_compared_49 (fun M_1 H locs eM_1 hP hS => ?_)
        have hw := hw M_1 eM_1
        refine lv_aload_n hx hb dX10_compared_52 rfl (lv_at hl 0 rfl) ?_
        refine mw_V (As := []) (rest := []) (T := TX10) (N := 25) (n := 0) ⟨hx, hb, hml, hown, hts⟩ (ih.2.2.1 h M_1 _ hw) wm_RX10_148 wi_yX10_sum wv_yX10_sum wn_RX10 wc_yX10_sum (by decide) (by constructor <;> (simp only [rgT]; omega)) ⟨rfl, rfl⟩ kh (by decide) (mk10 kh) rfl hSt hTb hP hS rfl hl.1 rfl (Nat.le_of_ble_eq_true rfl) dX10_compared_53 ⟨Nat.le_refl 0, Nat.le_refl 0⟩ (fun rr_ M_2 H locs hq hP hS => ?_)
        obtain ⟨rfl, hw⟩ := hq
        refine lv_aload_n hx hb dX10_compared_56 rfl (lv_at hl 0 rfl) ?_
        refine lv_sipush (v := 20000) hx hb dX10_compared_57 (by decide) ?_
        refine lv_iload_n hx hb dX10_compared_60 rfl (lv_at hl 1 rfl) ?_
        refine lv_iadd hx hb dX10_compared_61 ?_
        refine mw_V (As := [.int (20000 + v1)]) (rest := []) (T := TX10) (N := 25) (n := 1) ⟨hx, hb, hml, hown, hts⟩ (so_X10_adds l G h (20000 + v1) M_2 _ hw) wm_RX10_123 wi_yX10_adds wv_yX10_adds wn_RX10 wc_yX10_adds (by decide) (by constructor <;> (simp only [rgT]; omega)) ⟨rfl, rfl⟩ kh (by decide) (mk10 kh) rfl hSt hTb hP hS rfl hl.1 rfl (Nat.le_of_ble_eq_true rfl) dX10_compared_62 ⟨Nat.le_refl 0, Nat.le_refl 0⟩ (fun rr_ M_3 H locs hq hP hS => ?_)
        obtain ⟨rfl, hw⟩ := hq
        exact W.vret hx hb hr (mw_end hP hSt hTb hS ⟨rfl, hw⟩) hS.2.2 dX10_compared_65
      have J_23 : ∀ (s0 : Int32) (M : Mem) (H : Heap) (locs : List Loc) (ls : Array Slot), b_X10_compared_23 g0 g1 g2 g3 g4 g5 h Q s0 M → va_P G.2.1 clsA (wl G M) H → va_S (inW G) s.heap H locs → lv_has ls 2 [(0, .ref (G.1 + h))] → W p l e (rgT (d + 1)) s m ([.ref (G.1 + h)] : List Value).toArray below meth c H locs 0 0 (MQ below (Pq G (Qv Q)) ([.ref (G.1 + h)] : List Value).toArray s 0 0 (inW G)) (F0 m 23 ls [.int s0]) := by
        intro s0 M H locs ls  hw hP hS hl
        unfold b_X10_compared_23 at hw
        refine lv_istore_n (lv' := [(1, .int s0), (0, .ref (G.1 + h))]) hx hb dX10_compared_23 rfl hl (by decide) rfl (fun ls hl => ?_)
        refine lv_iload_n hx hb dX10_compared_24 rfl (lv_at hl 0 rfl) ?_
        refine lv_bipush (v := 60) hx hb dX10_compared_25 (by decide) ?_
        refine lv_icmp_eq (tgt := 42) hx hb dX10_compared_27 (by decide) (fun c_4 => ?_) (fun c_4 => ?_)
        · have hw := hw.1 c_4
          exact J_42 s0 M _ _ _ hw hP hS (lv_sub hl [1, 0] rfl)
        · have hw := hw.2 c_4
          refine lv_iload_n hx hb dX10_compared_30 rfl (lv_at hl 0 rfl) ?_
          refine lv_bipush (v := 61) hx hb dX10_compared_31 (by decide) ?_
          refine lv_icmp_eq (tgt := 42) hx hb dX10_compared_33 (by decide) (fun c_5 => ?_) (fun c_5 => ?_)
          · have hw := hw.1 c_5
            exact J_42 s0 M _ _ _ hw hP hS (lv_sub hl [1, 0] rfl)
          · have hw := hw.2 c_5
            refine lv_iload_n hx hb dX10_compared_36 rfl (lv_at hl 0 rfl) ?_
            refine lv_bipush (v := 62) hx hb dX10_compared_37 (by decide) ?_
            refine lv_icmp_ne (tgt := 65) hx hb dX10_compared_39 (by decide) (fun c_6 => ?_) (fun c_6 => ?_)
            · have hw := hw.1 c_6
              exact W.vret hx hb hr (mw_end hP hSt hTb hS ⟨rfl, hw⟩) hS.2.2 dX10_compared_65
            · have hw := hw.2 c_6
              exact J_42 s0 M _ _ _ hw hP hS (lv_sub hl [1, 0] rfl)
      refine lv_aload_n hx hb dX10_compared_0 rfl (lv_at hl 0 rfl) ?_
      refine mw_V (As := []) (rest := []) (T := TX10) (N := 25) (n := 0) ⟨hx, hb, hml, hown, hts⟩ (ih.2.2.1 h M _ hw) wm_RX10_148 wi_yX10_sum wv_yX10_sum wn_RX10 wc_yX10_sum (by decide) (by constructor <;> (simp only [rgT]; omega)) ⟨rfl, rfl⟩ kh (by decide) (mk10 kh) rfl hSt hTb hP hS rfl hl.1 rfl (Nat.le_of_ble_eq_true rfl) dX10_compared_1 ⟨Nat.le_refl 0, Nat.le_refl 0⟩ (fun rr_ M_7 H locs hq hP hS => ?_)
      obtain ⟨rfl, hw⟩ := hq
      refine lv_aload_n hx hb dX10_compared_4 rfl (lv_at hl 0 rfl) ?_
      refine mw_get (ci := 10) (v := .int (M_7 h 11)) (C := RX10) (T := TX10) (N := 25) hx hb ht inX10 hown hSt hP kh (by decide) (mk10 kh) rfl 11 (by decide) (ht _ wf_RX10_108) rfl rfl dX10_compared_5 ?_
      refine lv_if_eq (tgt := 22) hx hb dX10_compared_8 (by decide) (fun c_8 => ?_) (fun c_8 => ?_)
      · have hw := hw.1 c_8
        refine lv_iconst (v := (-1)) hx hb dX10_compared_22 (by decide) ?_
        exact J_23 (-1) M_7 _ _ _ hw hP hS (lv_sub hl [0] rfl)
      · have hw := hw.2 c_8
        refine lv_aload_n hx hb dX10_compared_11 rfl (lv_at hl 0 rfl) ?_
        refine lv_aload_n hx hb dX10_compared_12 rfl (lv_at hl 0 rfl) ?_
        refine mw_get (ci := 10) (v := .int (M_7 h 7)) (C := RX10) (T := TX10) (N := 25) hx hb ht inX10 hown hSt hP kh (by decide) (mk10 kh) rfl 7 (by decide) (ht _ wf_RX10_115) rfl rfl dX10_compared_13 ?_
        refine mw_V (As := [.int (M_7 h 7)]) (rest := []) (T := TX10) (N := 25) (n := 1) ⟨hx, hb, hml, hown, hts⟩ (so_X10_byteAt l G h (M_7 h 7) M_7 _ hw) wm_RX10_117 wi_yX10_byteAt wv_yX10_byteAt wn_RX10 wc_yX10_byteAt (by decide) (by constructor <;> (simp only [rgT]; omega)) ⟨rfl, rfl⟩ kh (by decide) (mk10 kh) rfl hSt hTb hP hS rfl hl.1 rfl (Nat.le_of_ble_eq_true rfl) dX10_compared_16 ⟨Nat.le_refl 0, Nat.le_refl 0⟩ (fun rr_ M_9 H locs hq hP hS => ?_)
        obtain ⟨r_10, rfl, hw⟩ := hq
        refine lv_goto (tgt := 23) hx hb dX10_compared_19 (by decide) ?_
        exact J_23 r_10 M_9 _ _ _ hw hP hS (lv_sub hl [0] rfl)
    · intro h M Q hw
      have hw : wb_X10_both g0 g1 g2 g3 g4 g5 h M Q := by rw [eg0]; rw [eg1]; rw [eg2]; rw [eg3]; rw [eg4]; rw [eg5]; exact hw
      unfold wb_X10_both at hw
      obtain ⟨kh, hw⟩ := hw
      refine ct_of (by decide) (Nat.le_of_ble_eq_true rfl) ?_
      intro p e s m below meth c E_ ls H hl hP hS
      obtain ⟨hx, hb, hml, hown, hts, ht, hr, hlocks, hSt, hTb⟩ := E_
      have hl : lv_has ls 1 [(0, .ref (G.1 + h))] := hl
      have L_4 : ∀ (n4 : Nat)  (M : Mem) (H : Heap) (locs : List Loc) (ls : Array Slot), l_X10_both_4 g0 g1 g2 g3 g4 g5 h Q n4  M → va_P G.2.1 clsA (wl G M) H → va_S (inW G) s.heap H locs → lv_has ls 1 [(0, .ref (G.1 + h))] → W p l e (rgT (d + 1)) s m ([.ref (G.1 + h)] : List Value).toArray below meth c H locs 0 0 (MQ below (Pq G (Qv Q)) ([.ref (G.1 + h)] : List Value).toArray s 0 0 (inW G)) (F0 m 4 ls []) := by
        intro   n4
        induction n4 with
        | zero => intro  M H locs ls  hw hP hS hl; exact False.elim hw
        | succ n4 ih4 =>
          intro  M H locs ls  hw hP hS hl
          have hw : B_X10_both_4 g0 g1 g2 g3 g4 g5 h Q (l_X10_both_4 g0 g1 g2 g3 g4 g5 h Q n4)  M := hw
          unfold B_X10_both_4 at hw
          refine lv_aload_n hx hb dX10_both_4 rfl (lv_at hl 0 rfl) ?_
          refine mw_get (ci := 10) (v := .int (M h 11)) (C := RX10) (T := TX10) (N := 25) hx hb ht inX10 hown hSt hP kh (by decide) (mk10 kh) rfl 11 (by decide) (ht _ wf_RX10_108) rfl rfl dX10_both_5 ?_
          refine lv_if_eq (tgt := 48) hx hb dX10_both_8 (by decide) (fun c_1 => ?_) (fun c_1 => ?_)
          · have hw := hw.1 c_1
            exact W.vret hx hb hr (mw_end hP hSt hTb hS ⟨rfl, hw⟩) hS.2.2 dX10_both_48
          · have hw := hw.2 c_1
            refine lv_aload_n hx hb dX10_both_11 rfl (lv_at hl 0 rfl) ?_
            refine lv_aload_n hx hb dX10_both_12 rfl (lv_at hl 0 rfl) ?_
            refine mw_get (ci := 10) (v := .int (M h 7)) (C := RX10) (T := TX10) (N := 25) hx hb ht inX10 hown hSt hP kh (by decide) (mk10 kh) rfl 7 (by decide) (ht _ wf_RX10_115) rfl rfl dX10_both_13 ?_
            refine mw_V (As := [.int (M h 7)]) (rest := []) (T := TX10) (N := 25) (n := 1) ⟨hx, hb, hml, hown, hts⟩ (so_X10_byteAt l G h (M h 7) M _ hw) wm_RX10_117 wi_yX10_byteAt wv_yX10_byteAt wn_RX10 wc_yX10_byteAt (by decide) (by constructor <;> (simp only [rgT]; omega)) ⟨rfl, rfl⟩ kh (by decide) (mk10 kh) rfl hSt hTb hP hS rfl hl.1 rfl (Nat.le_of_ble_eq_true rfl) dX10_both_16 ⟨Nat.le_refl 0, Nat.le_refl 0⟩ (fun rr_ M_2 H locs hq hP hS => ?_)
            obtain ⟨r_3, rfl, hw⟩ := hq
            refine lv_bipush (v := 38) hx hb dX10_both_19 (by decide) ?_
            refine lv_icmp_ne (tgt := 48) hx hb dX10_both_21 (by decide) (fun c_4 => ?_) (fun c_4 => ?_)
            · have hw := hw.1 c_4
              exact W.vret hx hb hr (mw_end hP hSt hTb hS ⟨rfl, hw⟩) hS.2.2 dX10_both_48
            · have hw := hw.2 c_4
              refine lv_aload_n hx hb dX10_both_24 rfl (lv_at hl 0 rfl) ?_
              refine lv_dup hx hb dX10_both_25 rfl ?_
              refine mw_get (ci := 10) (v := .int (M_2 h 7)) (C := RX10) (T := TX10) (N := 25) hx hb ht inX10 hown hSt hP kh (by decide) (mk10 kh) rfl 7 (by decide) (ht _ wf_RX10_115) rfl rfl dX10_both_26 ?_
              refine lv_iconst (v := 1) hx hb dX10_both_29 (by decide) ?_
              refine lv_iadd hx hb dX10_both_30 ?_
              refine mw_put (ci := 10) (v := (M_2 h 7) + 1) (ty := .int) (C := RX10) (T := TX10) (N := 25) hx hb ht inX10 tyX10 tyX10_ok nmX10 hown hSt hP hS kh (by decide) (mk10 kh) rfl 7 (by decide) (ht _ wf_RX10_115) rfl rfl (by decide +kernel) (vp_nar_int _) rfl (Nat.le_of_ble_eq_true rfl) (by rw [mk10 kh]; simp [mu]) dX10_both_31 (fun M_5 H locs eM_5 hP hS => ?_)
              have hw := hw M_5 eM_5
              refine lv_aload_n hx hb dX10_both_34 rfl (lv_at hl 0 rfl) ?_
              refine mw_V (As := []) (rest := []) (T := TX10) (N := 25) (n := 0) ⟨hx, hb, hml, hown, hts⟩ (ih.2.2.2.1 h M_5 _ hw) wm_RX10_151 wi_yX10_compared wv_yX10_compared wn_RX10 wc_yX10_compared (by decide) (by constructor <;> (simp only [rgT]; omega)) ⟨rfl, rfl⟩ kh (by decide) (mk10 kh) rfl hSt hTb hP hS rfl hl.1 rfl (Nat.le_of_ble_eq_true rfl) dX10_both_35 ⟨Nat.le_refl 0, Nat.le_refl 0⟩ (fun rr_ M_6 H locs hq hP hS => ?_)
              obtain ⟨rfl, hw⟩ := hq
              refine lv_aload_n hx hb dX10_both_38 rfl (lv_at hl 0 rfl) ?_
              refine lv_sipush (v := 20038) hx hb dX10_both_39 (by decide) ?_
              refine mw_V (As := [.int 20038]) (rest := []) (T := TX10) (N := 25) (n := 1) ⟨hx, hb, hml, hown, hts⟩ (so_X10_adds l G h 20038 M_6 _ hw) wm_RX10_123 wi_yX10_adds wv_yX10_adds wn_RX10 wc_yX10_adds (by decide) (by constructor <;> (simp only [rgT]; omega)) ⟨rfl, rfl⟩ kh (by decide) (mk10 kh) rfl hSt hTb hP hS rfl hl.1 rfl (Nat.le_of_ble_eq_true rfl) dX10_both_42 ⟨Nat.le_refl 0, Nat.le_refl 0⟩ (fun rr_ M_7 H locs hq hP hS => ?_)
              obtain ⟨rfl, hw⟩ := hq
              refine lv_goto (tgt := 4) hx hb dX10_both_45 (by decide) ?_
              exact ih4 M_7 _ _ _ hw hP hS (lv_sub hl [0] rfl)
      refine lv_aload_n hx hb dX10_both_0 rfl (lv_at hl 0 rfl) ?_
      refine mw_V (As := []) (rest := []) (T := TX10) (N := 25) (n := 0) ⟨hx, hb, hml, hown, hts⟩ (ih.2.2.2.1 h M _ hw) wm_RX10_151 wi_yX10_compared wv_yX10_compared wn_RX10 wc_yX10_compared (by decide) (by constructor <;> (simp only [rgT]; omega)) ⟨rfl, rfl⟩ kh (by decide) (mk10 kh) rfl hSt hTb hP hS rfl hl.1 rfl (Nat.le_of_ble_eq_true rfl) dX10_both_1 ⟨Nat.le_refl 0, Nat.le_refl 0⟩ (fun rr_ M_8 H locs hq hP hS => ?_)
      obtain ⟨rfl, hw⟩ := hq
      obtain ⟨n_, hw⟩ := hw
      exact L_4 n_ M_8 _ _ _ hw hP hS (lv_sub hl [0] rfl)
    · intro h M Q hw
      have hw : wb_X10_whole g0 g1 g2 g3 g4 g5 h M Q := by rw [eg0]; rw [eg1]; rw [eg2]; rw [eg3]; rw [eg4]; rw [eg5]; exact hw
      unfold wb_X10_whole at hw
      obtain ⟨kh, hw⟩ := hw
      refine ct_of (by decide) (Nat.le_of_ble_eq_true rfl) ?_
      intro p e s m below meth c E_ ls H hl hP hS
      obtain ⟨hx, hb, hml, hown, hts, ht, hr, hlocks, hSt, hTb⟩ := E_
      have hl : lv_has ls 1 [(0, .ref (G.1 + h))] := hl
      have L_4 : ∀ (n4 : Nat)  (M : Mem) (H : Heap) (locs : List Loc) (ls : Array Slot), l_X10_whole_4 g0 g1 g2 g3 g4 g5 h Q n4  M → va_P G.2.1 clsA (wl G M) H → va_S (inW G) s.heap H locs → lv_has ls 1 [(0, .ref (G.1 + h))] → W p l e (rgT (d + 1)) s m ([.ref (G.1 + h)] : List Value).toArray below meth c H locs 0 0 (MQ below (Pq G (Qv Q)) ([.ref (G.1 + h)] : List Value).toArray s 0 0 (inW G)) (F0 m 4 ls []) := by
        intro   n4
        induction n4 with
        | zero => intro  M H locs ls  hw hP hS hl; exact False.elim hw
        | succ n4 ih4 =>
          intro  M H locs ls  hw hP hS hl
          have hw : B_X10_whole_4 g0 g1 g2 g3 g4 g5 h Q (l_X10_whole_4 g0 g1 g2 g3 g4 g5 h Q n4)  M := hw
          unfold B_X10_whole_4 at hw
          refine lv_aload_n hx hb dX10_whole_4 rfl (lv_at hl 0 rfl) ?_
          refine mw_get (ci := 10) (v := .int (M h 11)) (C := RX10) (T := TX10) (N := 25) hx hb ht inX10 hown hSt hP kh (by decide) (mk10 kh) rfl 11 (by decide) (ht _ wf_RX10_108) rfl rfl dX10_whole_5 ?_
          refine lv_if_eq (tgt := 48) hx hb dX10_whole_8 (by decide) (fun c_1 => ?_) (fun c_1 => ?_)
          · have hw := hw.1 c_1
            exact W.vret hx hb hr (mw_end hP hSt hTb hS ⟨rfl, hw⟩) hS.2.2 dX10_whole_48
          · have hw := hw.2 c_1
            refine lv_aload_n hx hb dX10_whole_11 rfl (lv_at hl 0 rfl) ?_
            refine lv_aload_n hx hb dX10_whole_12 rfl (lv_at hl 0 rfl) ?_
            refine mw_get (ci := 10) (v := .int (M h 7)) (C := RX10) (T := TX10) (N := 25) hx hb ht inX10 hown hSt hP kh (by decide) (mk10 kh) rfl 7 (by decide) (ht _ wf_RX10_115) rfl rfl dX10_whole_13 ?_
            refine mw_V (As := [.int (M h 7)]) (rest := []) (T := TX10) (N := 25) (n := 1) ⟨hx, hb, hml, hown, hts⟩ (so_X10_byteAt l G h (M h 7) M _ hw) wm_RX10_117 wi_yX10_byteAt wv_yX10_byteAt wn_RX10 wc_yX10_byteAt (by decide) (by constructor <;> (simp only [rgT]; omega)) ⟨rfl, rfl⟩ kh (by decide) (mk10 kh) rfl hSt hTb hP hS rfl hl.1 rfl (Nat.le_of_ble_eq_true rfl) dX10_whole_16 ⟨Nat.le_refl 0, Nat.le_refl 0⟩ (fun rr_ M_2 H locs hq hP hS => ?_)
            obtain ⟨r_3, rfl, hw⟩ := hq
            refine lv_bipush (v := 124) hx hb dX10_whole_19 (by decide) ?_
            refine lv_icmp_ne (tgt := 48) hx hb dX10_whole_21 (by decide) (fun c_4 => ?_) (fun c_4 => ?_)
            · have hw := hw.1 c_4
              exact W.vret hx hb hr (mw_end hP hSt hTb hS ⟨rfl, hw⟩) hS.2.2 dX10_whole_48
            · have hw := hw.2 c_4
              refine lv_aload_n hx hb dX10_whole_24 rfl (lv_at hl 0 rfl) ?_
              refine lv_dup hx hb dX10_whole_25 rfl ?_
              refine mw_get (ci := 10) (v := .int (M_2 h 7)) (C := RX10) (T := TX10) (N := 25) hx hb ht inX10 hown hSt hP kh (by decide) (mk10 kh) rfl 7 (by decide) (ht _ wf_RX10_115) rfl rfl dX10_whole_26 ?_
              refine lv_iconst (v := 1) hx hb dX10_whole_29 (by decide) ?_
              refine lv_iadd hx hb dX10_whole_30 ?_
              refine mw_put (ci := 10) (v := (M_2 h 7) + 1) (ty := .int) (C := RX10) (T := TX10) (N := 25) hx hb ht inX10 tyX10 tyX10_ok nmX10 hown hSt hP hS kh (by decide) (mk10 kh) rfl 7 (by decide) (ht _ wf_RX10_115) rfl rfl (by decide +kernel) (vp_nar_int _) rfl (Nat.le_of_ble_eq_true rfl) (by rw [mk10 kh]; simp [mu]) dX10_whole_31 (fun M_5 H locs eM_5 hP hS => ?_)
              have hw := hw M_5 eM_5
              refine lv_aload_n hx hb dX10_whole_34 rfl (lv_at hl 0 rfl) ?_
              refine mw_V (As := []) (rest := []) (T := TX10) (N := 25) (n := 0) ⟨hx, hb, hml, hown, hts⟩ (ih.2.2.2.2.1 h M_5 _ hw) wm_RX10_154 wi_yX10_both wv_yX10_both wn_RX10 wc_yX10_both (by decide) (by constructor <;> (simp only [rgT]; omega)) ⟨rfl, rfl⟩ kh (by decide) (mk10 kh) rfl hSt hTb hP hS rfl hl.1 rfl (Nat.le_of_ble_eq_true rfl) dX10_whole_35 ⟨Nat.le_refl 0, Nat.le_refl 0⟩ (fun rr_ M_6 H locs hq hP hS => ?_)
              obtain ⟨rfl, hw⟩ := hq
              refine lv_aload_n hx hb dX10_whole_38 rfl (lv_at hl 0 rfl) ?_
              refine lv_sipush (v := 20124) hx hb dX10_whole_39 (by decide) ?_
              refine mw_V (As := [.int 20124]) (rest := []) (T := TX10) (N := 25) (n := 1) ⟨hx, hb, hml, hown, hts⟩ (so_X10_adds l G h 20124 M_6 _ hw) wm_RX10_123 wi_yX10_adds wv_yX10_adds wn_RX10 wc_yX10_adds (by decide) (by constructor <;> (simp only [rgT]; omega)) ⟨rfl, rfl⟩ kh (by decide) (mk10 kh) rfl hSt hTb hP hS rfl hl.1 rfl (Nat.le_of_ble_eq_true rfl) dX10_whole_42 ⟨Nat.le_refl 0, Nat.le_refl 0⟩ (fun rr_ M_7 H locs hq hP hS => ?_)
              obtain ⟨rfl, hw⟩ := hq
              refine lv_goto (tgt := 4) hx hb dX10_whole_45 (by decide) ?_
              exact ih4 M_7 _ _ _ hw hP hS (lv_sub hl [0] rfl)
      refine lv_aload_n hx hb dX10_whole_0 rfl (lv_at hl 0 rfl) ?_
      refine mw_V (As := []) (rest := []) (T := TX10) (N := 25) (n := 0) ⟨hx, hb, hml, hown, hts⟩ (ih.2.2.2.2.1 h M _ hw) wm_RX10_154 wi_yX10_both wv_yX10_both wn_RX10 wc_yX10_both (by decide) (by constructor <;> (simp only [rgT]; omega)) ⟨rfl, rfl⟩ kh (by decide) (mk10 kh) rfl hSt hTb hP hS rfl hl.1 rfl (Nat.le_of_ble_eq_true rfl) dX10_whole_1 ⟨Nat.le_refl 0, Nat.le_refl 0⟩ (fun rr_ M_8 H locs hq hP hS => ?_)
      obtain ⟨rfl, hw⟩ := hq
      obtain ⟨n_, hw⟩ := hw
      exact L_4 n_ M_8 _ _ _ hw hP hS (lv_sub hl [0] rfl)
theorem so_X10_factor (l : Launch) (G : Gm) (h : Nat) (M : Mem) (Q : Mem → Prop) (hw : wp_X10_factor 60 h M Q) : Ct l G yX10_factor cX10_factor 2 none (rgT 60) [.ref (G.1 + h)] M (Qv Q) := (sg_T l G 60).1 h M Q hw
theorem so_X10_product (l : Launch) (G : Gm) (h : Nat) (M : Mem) (Q : Mem → Prop) (hw : wp_X10_product 60 h M Q) : Ct l G yX10_product cX10_product 2 none (rgT 60) [.ref (G.1 + h)] M (Qv Q) := (sg_T l G 60).2.1 h M Q hw
theorem so_X10_sum (l : Launch) (G : Gm) (h : Nat) (M : Mem) (Q : Mem → Prop) (hw : wp_X10_sum 60 h M Q) : Ct l G yX10_sum cX10_sum 2 none (rgT 60) [.ref (G.1 + h)] M (Qv Q) := (sg_T l G 60).2.2.1 h M Q hw
theorem so_X10_compared (l : Launch) (G : Gm) (h : Nat) (M : Mem) (Q : Mem → Prop) (hw : wp_X10_compared 60 h M Q) : Ct l G yX10_compared cX10_compared 2 none (rgT 60) [.ref (G.1 + h)] M (Qv Q) := (sg_T l G 60).2.2.2.1 h M Q hw
theorem so_X10_both (l : Launch) (G : Gm) (h : Nat) (M : Mem) (Q : Mem → Prop) (hw : wp_X10_both 60 h M Q) : Ct l G yX10_both cX10_both 1 none (rgT 60) [.ref (G.1 + h)] M (Qv Q) := (sg_T l G 60).2.2.2.2.1 h M Q hw
theorem so_X10_whole (l : Launch) (G : Gm) (h : Nat) (M : Mem) (Q : Mem → Prop) (hw : wp_X10_whole 60 h M Q) : Ct l G yX10_whole cX10_whole 1 none (rgT 60) [.ref (G.1 + h)] M (Qv Q) := (sg_T l G 60).2.2.2.2.2 h M Q hw
def B_X10_text_119 (h : Nat) (Q : Int32 → Mem → Prop) (v1 : Int32) (K119 : Int32 → Mem → Prop) (v2 : Int32) (M : Mem) : Prop :=
  ((M h 10) ≤ v2 → Q 1 M) ∧ (¬ (M h 10) ≤ v2 → vp_in v2 50 ∧ (vp_in ((142 + (50 * v1)) + v2) 242 ∧ ∀ M_4, M_4 = mu M (h + 1) ((142 + (50 * v1)) + v2).toNatClampNeg (M (h + 5) v2.toNatClampNeg) → ∀ x_5 : Int32, x_5 = v2 + 1 → K119 x_5 M_4))
def l_X10_text_119 (h : Nat) (Q : Int32 → Mem → Prop) (v1 : Int32) : Nat → Int32 → Mem → Prop
  | 0 => fun _ _ => False
  | n + 1 => B_X10_text_119 h Q v1 (l_X10_text_119 h Q v1 n)
def b_X10_text_79 (h : Nat) (Q : Int32 → Mem → Prop) (v1 : Int32) (s0 : Nat) (s1 : Int32) (M : Mem) : Prop :=
  isb s1 ∧ ∀ M_6, M_6 = mu M s0 11 s1 → ∀ M_9, M_9 = mu M_6 (h + 1) 4 0 → (¬ (M_9 h 11) = 0 → vp_in (6 + v1) 242 ∧ ∀ M_12, M_12 = mu M_9 (h + 1) (6 + v1).toNatClampNeg (M_9 h 10) → ∃ n, l_X10_text_119 h Q v1 n 0 M_12) ∧ ((M_9 h 11) = 0 → Q ((-10) - (M_9 h 7)) M_9)
def b_X10_text_78 (h : Nat) (Q : Int32 → Mem → Prop) (v1 : Int32) (s0 : Nat) (M : Mem) : Prop :=
  b_X10_text_79 h Q v1 s0 0 M
def wp_X10_text (h : Nat) (a1 : Int32) (M : Mem) (Q : Int32 → Mem → Prop) : Prop :=
  kdT h = 10 ∧ (wp_X10_in a1 0 1 M (fun r_14 M_13 => (¬ r_14 = 0 → ∀ M_16, M_16 = mu M_13 h 6 a1 → ∀ M_17, M_17 = mu M_16 h 7 0 → ∀ M_19, M_19 = mu M_17 h 8 (M_17 (h + 1) 4) → ∀ M_20, M_20 = mu M_19 h 9 0 → ∀ M_21, M_21 = mu M_20 h 10 0 → ∀ M_22, M_22 = mu M_21 h 11 1 → wp_X10_whole 60 h M_22 (fun M_23 => ((M_23 h 11) = 0 → b_X10_text_78 h Q a1 h M_23) ∧ (¬ (M_23 h 11) = 0 → (¬ (M_23 h 7) = (M_23 h 8) → b_X10_text_78 h Q a1 h M_23) ∧ ((M_23 h 7) = (M_23 h 8) → b_X10_text_79 h Q a1 h 1 M_23)))) ∧ (r_14 = 0 → wp_X10_errs h (-1000000001) M_13 (fun r_27 M_26 => Q r_27 M_26))))
set_option maxHeartbeats 4000000 in
set_option maxRecDepth 100000 in
theorem so_X10_text (l : Launch) (G : Gm) (h : Nat) (a1 : Int32) (M : Mem) (Q : Int32 → Mem → Prop) (hw : wp_X10_text h a1 M Q) : Ct l G yX10_text cX10_text 3 (some .int) ({ frames := 64, cells := 0, slots := 0, locals := 1344 } : Room) [.ref (G.1 + h), .int a1] M (Qi Q) := by
  unfold wp_X10_text at hw
  obtain ⟨kh, hw⟩ := hw
  refine ct_of (by decide) (Nat.le_of_ble_eq_true rfl) ?_
  intro p e s m below meth c E_ ls H hl hP hS
  obtain ⟨hx, hb, hml, hown, hts, ht, hr, hlocks, hSt, hTb⟩ := E_
  have hl : lv_has ls 3 [(0, .ref (G.1 + h)), (1, .int a1)] := hl
  have L_119 : ∀ (v1 : Int32), ∀ (n119 : Nat) (v2 : Int32) (M : Mem) (H : Heap) (locs : List Loc) (ls : Array Slot), l_X10_text_119 h Q v1 n119 v2 M → va_P G.2.1 clsA (wl G M) H → va_S (inW G) s.heap H locs → lv_has ls 3 [(0, .ref (G.1 + h)), (1, .int v1), (2, .int v2)] → W p l e ({ frames := 64, cells := 0, slots := 0, locals := 1344 } : Room) s m ([.ref (G.1 + h), .int a1] : List Value).toArray below meth c H locs 0 0 (MQ below (Pq G (Qi Q)) ([.ref (G.1 + h), .int a1] : List Value).toArray s 0 0 (inW G)) (F0 m 119 ls []) := by
    intro v1  n119
    induction n119 with
    | zero => intro v2 M H locs ls  hw hP hS hl; exact False.elim hw
    | succ n119 ih119 =>
      intro v2 M H locs ls  hw hP hS hl
      have hw : B_X10_text_119 h Q v1 (l_X10_text_119 h Q v1 n119) v2 M := hw
      unfold B_X10_text_119 at hw
      refine lv_iload_n hx hb dX10_text_119 rfl (lv_at hl 2 rfl) ?_
      refine lv_aload_n hx hb dX10_text_120 rfl (lv_at hl 0 rfl) ?_
      refine mw_get (ci := 10) (v := .int (M h 10)) (C := RX10) (T := TX10) (N := 25) hx hb ht inX10 hown hSt hP kh (by decide) (mk10 kh) rfl 10 (by decide) (ht _ wf_RX10_112) rfl rfl dX10_text_121 ?_
      refine lv_icmp_ge (tgt := 154) hx hb dX10_text_124 (by decide) (fun c_1 => ?_) (fun c_1 => ?_)
      · have hw := hw.1 c_1
        refine lv_iconst (v := 1) hx hb dX10_text_154 (by decide) ?_
        exact W.iret hx hb hr (mw_end hP hSt hTb hS ⟨_, rfl, hw⟩) hS.2.2 dX10_text_155
      · have hw := hw.2 c_1
        refine lv_aload_n hx hb dX10_text_127 rfl (lv_at hl 0 rfl) ?_
        refine mw_get (ci := 10) (v := .ref (G.1 + (h + 1))) (C := RX10) (T := TX10) (N := 25) hx hb ht inX10 hown hSt hP kh (by decide) (mk10 kh) rfl 0 (by decide) (ht _ wf_RX10_7) rfl rfl dX10_text_128 ?_
        refine lv_sipush (v := 142) hx hb dX10_text_131 (by decide) ?_
        refine lv_bipush (v := 50) hx hb dX10_text_134 (by decide) ?_
        refine lv_iload_n hx hb dX10_text_136 rfl (lv_at hl 1 rfl) ?_
        refine lv_imul hx hb dX10_text_137 ?_
        refine lv_iadd hx hb dX10_text_138 ?_
        refine lv_iload_n hx hb dX10_text_139 rfl (lv_at hl 2 rfl) ?_
        refine lv_iadd hx hb dX10_text_140 ?_
        refine lv_aload_n hx hb dX10_text_141 rfl (lv_at hl 0 rfl) ?_
        refine mw_get (ci := 10) (v := .ref (G.1 + (h + 5))) (C := RX10) (T := TX10) (N := 25) hx hb ht inX10 hown hSt hP kh (by decide) (mk10 kh) rfl 12 (by decide) (ht _ wf_RX10_22) rfl rfl dX10_text_142 ?_
        refine lv_iload_n hx hb dX10_text_145 rfl (lv_at hl 2 rfl) ?_
        obtain ⟨c_2, hw⟩ := hw
        refine mw_iald hx hb hSt hP (ks10_12 kh) (by rw [(ln10_12 kh)]; exact c_2) dX10_text_146 ?_
        obtain ⟨c_3, hw⟩ := hw
        refine mw_iast hx hb hSt hP hS (ks10_0 kh) (by rw [(ln10_0 kh)]; exact c_3) dX10_text_147 (fun M_4 H locs eM_4 hP hS => ?_)
        have hw := hw M_4 eM_4
        obtain ⟨x_5, ex_5⟩ : ∃ z : Int32, z = v2 + 1 := ⟨_, rfl⟩
        have hw := hw x_5 ex_5
        refine lv_iinc (v := x_5) (lv' := [(2, .int x_5), (0, .ref (G.1 + h)), (1, .int v1)]) hx hb dX10_text_148 hl (k := 2) rfl (by rw [ex_5]; rfl) (by decide) rfl (fun ls hl => ?_)
        refine lv_goto (tgt := 119) hx hb dX10_text_151 (by decide) ?_
        exact ih119 x_5 M_4 _ _ _ hw hP hS (lv_sub hl [1, 2, 0] rfl)
  have J_79 : ∀ (v1 : Int32) (s0 : Nat) (s1 : Int32) (M : Mem) (H : Heap) (locs : List Loc) (ls : Array Slot), kdT s0 = 10 → b_X10_text_79 h Q v1 s0 s1 M → va_P G.2.1 clsA (wl G M) H → va_S (inW G) s.heap H locs → lv_has ls 3 [(0, .ref (G.1 + h)), (1, .int v1)] → W p l e ({ frames := 64, cells := 0, slots := 0, locals := 1344 } : Room) s m ([.ref (G.1 + h), .int a1] : List Value).toArray below meth c H locs 0 0 (MQ below (Pq G (Qi Q)) ([.ref (G.1 + h), .int a1] : List Value).toArray s 0 0 (inW G)) (F0 m 79 ls [.int s1, .ref (G.1 + s0)]) := by
    intro v1 s0 s1 M H locs ls ks0 hw hP hS hl
    unfold b_X10_text_79 at hw
    obtain ⟨c_7, hw⟩ := hw
    refine mw_put (ci := 10) (v := s1) (ty := .boolean) (C := RX10) (T := TX10) (N := 25) hx hb ht inX10 tyX10 tyX10_ok nmX10 hown hSt hP hS ks0 (by decide) (mk10 ks0) rfl 11 (by decide) (ht _ wf_RX10_108) rfl rfl (by decide +kernel) c_7.narrow c_7.fits (Nat.le_of_ble_eq_true rfl) (by rw [mk10 ks0]; simp [mu]) dX10_text_79 (fun M_6 H locs eM_6 hP hS => ?_)
    have hw := hw M_6 eM_6
    refine lv_aload_n hx hb dX10_text_82 rfl (lv_at hl 0 rfl) ?_
    refine mw_get (ci := 10) (v := .ref (G.1 + (h + 1))) (C := RX10) (T := TX10) (N := 25) hx hb ht inX10 hown hSt hP kh (by decide) (mk10 kh) rfl 0 (by decide) (ht _ wf_RX10_7) rfl rfl dX10_text_83 ?_
    refine lv_iconst (v := 4) hx hb dX10_text_86 (by decide) ?_
    refine lv_iconst (v := 0) hx hb dX10_text_87 (by decide) ?_
    refine mw_iastc hx hb hSt hP hS (ks10_0 kh) (ln10_0 kh) 4 (by decide) dX10_text_88 (fun M_9 H locs eM_9 hP hS => ?_)
    have hw := hw M_9 eM_9
    refine lv_aload_n hx hb dX10_text_89 rfl (lv_at hl 0 rfl) ?_
    refine mw_get (ci := 10) (v := .int (M_9 h 11)) (C := RX10) (T := TX10) (N := 25) hx hb ht inX10 hown hSt hP kh (by decide) (mk10 kh) rfl 11 (by decide) (ht _ wf_RX10_108) rfl rfl dX10_text_90 ?_
    refine lv_if_ne (tgt := 104) hx hb dX10_text_93 (by decide) (fun c_10 => ?_) (fun c_10 => ?_)
    · have hw := hw.1 c_10
      refine lv_aload_n hx hb dX10_text_104 rfl (lv_at hl 0 rfl) ?_
      refine mw_get (ci := 10) (v := .ref (G.1 + (h + 1))) (C := RX10) (T := TX10) (N := 25) hx hb ht inX10 hown hSt hP kh (by decide) (mk10 kh) rfl 0 (by decide) (ht _ wf_RX10_7) rfl rfl dX10_text_105 ?_
      refine lv_bipush (v := 6) hx hb dX10_text_108 (by decide) ?_
      refine lv_iload_n hx hb dX10_text_110 rfl (lv_at hl 1 rfl) ?_
      refine lv_iadd hx hb dX10_text_111 ?_
      refine lv_aload_n hx hb dX10_text_112 rfl (lv_at hl 0 rfl) ?_
      refine mw_get (ci := 10) (v := .int (M_9 h 10)) (C := RX10) (T := TX10) (N := 25) hx hb ht inX10 hown hSt hP kh (by decide) (mk10 kh) rfl 10 (by decide) (ht _ wf_RX10_112) rfl rfl dX10_text_113 ?_
      obtain ⟨c_11, hw⟩ := hw
      refine mw_iast hx hb hSt hP hS (ks10_0 kh) (by rw [(ln10_0 kh)]; exact c_11) dX10_text_116 (fun M_12 H locs eM_12 hP hS => ?_)
      have hw := hw M_12 eM_12
      refine lv_iconst (v := 0) hx hb dX10_text_117 (by decide) ?_
      refine lv_istore_n (lv' := [(2, .int 0), (0, .ref (G.1 + h)), (1, .int v1)]) hx hb dX10_text_118 rfl hl (by decide) rfl (fun ls hl => ?_)
      obtain ⟨n_, hw⟩ := hw
      exact L_119 v1 n_ 0 M_12 _ _ _ hw hP hS (lv_sub hl [1, 2, 0] rfl)
    · have hw := hw.2 c_10
      refine lv_bipush (v := (-10)) hx hb dX10_text_96 (by decide) ?_
      refine lv_aload_n hx hb dX10_text_98 rfl (lv_at hl 0 rfl) ?_
      refine mw_get (ci := 10) (v := .int (M_9 h 7)) (C := RX10) (T := TX10) (N := 25) hx hb ht inX10 hown hSt hP kh (by decide) (mk10 kh) rfl 7 (by decide) (ht _ wf_RX10_115) rfl rfl dX10_text_99 ?_
      refine lv_isub hx hb dX10_text_102 ?_
      exact W.iret hx hb hr (mw_end hP hSt hTb hS ⟨_, rfl, hw⟩) hS.2.2 dX10_text_103
  have J_78 : ∀ (v1 : Int32) (s0 : Nat) (M : Mem) (H : Heap) (locs : List Loc) (ls : Array Slot), kdT s0 = 10 → b_X10_text_78 h Q v1 s0 M → va_P G.2.1 clsA (wl G M) H → va_S (inW G) s.heap H locs → lv_has ls 3 [(0, .ref (G.1 + h)), (1, .int v1)] → W p l e ({ frames := 64, cells := 0, slots := 0, locals := 1344 } : Room) s m ([.ref (G.1 + h), .int a1] : List Value).toArray below meth c H locs 0 0 (MQ below (Pq G (Qi Q)) ([.ref (G.1 + h), .int a1] : List Value).toArray s 0 0 (inW G)) (F0 m 78 ls [.ref (G.1 + s0)]) := by
    intro v1 s0 M H locs ls ks0 hw hP hS hl
    unfold b_X10_text_78 at hw
    refine lv_iconst (v := 0) hx hb dX10_text_78 (by decide) ?_
    exact J_79 v1 s0 0 M _ _ _ ks0 hw hP hS (lv_sub hl [0, 1] rfl)
  refine lv_iload_n hx hb dX10_text_0 rfl (lv_at hl 1 rfl) ?_
  refine lv_iconst (v := 0) hx hb dX10_text_1 (by decide) ?_
  refine lv_iconst (v := 1) hx hb dX10_text_2 (by decide) ?_
  refine mw_Sx (As := [.int a1, .int 0, .int 1]) (rest := []) (n := 3) ⟨hx, hb, hml, hown, hts⟩ (so_X10_in l G a1 0 1 M _ hw) wm_RX10_50 wt_yX10_in wn_RX10 wc_yX10_in (by decide) ⟨Nat.le_of_ble_eq_true rfl, Nat.le_of_ble_eq_true rfl⟩ ⟨rfl, rfl⟩ hSt hTb hP hS rfl hl.1 rfl (Nat.le_of_ble_eq_true rfl) dX10_text_3 ⟨Nat.le_refl 0, Nat.le_refl 0⟩ (fun rr_ M_13 H locs hq hP hS => ?_)
  obtain ⟨r_14, rfl, hw⟩ := hq
  refine lv_if_ne (tgt := 16) hx hb dX10_text_6 (by decide) (fun c_15 => ?_) (fun c_15 => ?_)
  · have hw := hw.1 c_15
    refine lv_aload_n hx hb dX10_text_16 rfl (lv_at hl 0 rfl) ?_
    refine lv_iload_n hx hb dX10_text_17 rfl (lv_at hl 1 rfl) ?_
    refine mw_put (ci := 10) (v := a1) (ty := .int) (C := RX10) (T := TX10) (N := 25) hx hb ht inX10 tyX10 tyX10_ok nmX10 hown hSt hP hS kh (by decide) (mk10 kh) rfl 6 (by decide) (ht _ wf_RX10_127) rfl rfl (by decide +kernel) (vp_nar_int _) rfl (Nat.le_of_ble_eq_true rfl) (by rw [mk10 kh]; simp [mu]) dX10_text_18 (fun M_16 H locs eM_16 hP hS => ?_)
    have hw := hw M_16 eM_16
    refine lv_aload_n hx hb dX10_text_21 rfl (lv_at hl 0 rfl) ?_
    refine lv_iconst (v := 0) hx hb dX10_text_22 (by decide) ?_
    refine mw_put (ci := 10) (v := 0) (ty := .int) (C := RX10) (T := TX10) (N := 25) hx hb ht inX10 tyX10 tyX10_ok nmX10 hown hSt hP hS kh (by decide) (mk10 kh) rfl 7 (by decide) (ht _ wf_RX10_115) rfl rfl (by decide +kernel) (vp_nar_int _) rfl (Nat.le_of_ble_eq_true rfl) (by rw [mk10 kh]; simp [mu]) dX10_text_23 (fun M_17 H locs eM_17 hP hS => ?_)
    have hw := hw M_17 eM_17
    refine lv_aload_n hx hb dX10_text_26 rfl (lv_at hl 0 rfl) ?_
    refine lv_aload_n hx hb dX10_text_27 rfl (lv_at hl 0 rfl) ?_
    refine mw_get (ci := 10) (v := .ref (G.1 + (h + 1))) (C := RX10) (T := TX10) (N := 25) hx hb ht inX10 hown hSt hP kh (by decide) (mk10 kh) rfl 0 (by decide) (ht _ wf_RX10_7) rfl rfl dX10_text_28 ?_
    refine lv_iconst (v := 4) hx hb dX10_text_31 (by decide) ?_
    refine mw_ialdc hx hb hSt hP (ks10_0 kh) (ln10_0 kh) 4 (by decide) dX10_text_32 ?_
    refine mw_put (ci := 10) (v := M_17 (h + 1) 4) (ty := .int) (C := RX10) (T := TX10) (N := 25) hx hb ht inX10 tyX10 tyX10_ok nmX10 hown hSt hP hS kh (by decide) (mk10 kh) rfl 8 (by decide) (ht _ wf_RX10_104) rfl rfl (by decide +kernel) (vp_nar_int _) rfl (Nat.le_of_ble_eq_true rfl) (by rw [mk10 kh]; simp [mu]) dX10_text_33 (fun M_19 H locs eM_19 hP hS => ?_)
    have hw := hw M_19 eM_19
    refine lv_aload_n hx hb dX10_text_36 rfl (lv_at hl 0 rfl) ?_
    refine lv_iconst (v := 0) hx hb dX10_text_37 (by decide) ?_
    refine mw_put (ci := 10) (v := 0) (ty := .int) (C := RX10) (T := TX10) (N := 25) hx hb ht inX10 tyX10 tyX10_ok nmX10 hown hSt hP hS kh (by decide) (mk10 kh) rfl 9 (by decide) (ht _ wf_RX10_136) rfl rfl (by decide +kernel) (vp_nar_int _) rfl (Nat.le_of_ble_eq_true rfl) (by rw [mk10 kh]; simp [mu]) dX10_text_38 (fun M_20 H locs eM_20 hP hS => ?_)
    have hw := hw M_20 eM_20
    refine lv_aload_n hx hb dX10_text_41 rfl (lv_at hl 0 rfl) ?_
    refine lv_iconst (v := 0) hx hb dX10_text_42 (by decide) ?_
    refine mw_put (ci := 10) (v := 0) (ty := .int) (C := RX10) (T := TX10) (N := 25) hx hb ht inX10 tyX10 tyX10_ok nmX10 hown hSt hP hS kh (by decide) (mk10 kh) rfl 10 (by decide) (ht _ wf_RX10_112) rfl rfl (by decide +kernel) (vp_nar_int _) rfl (Nat.le_of_ble_eq_true rfl) (by rw [mk10 kh]; simp [mu]) dX10_text_43 (fun M_21 H locs eM_21 hP hS => ?_)
    have hw := hw M_21 eM_21
    refine lv_aload_n hx hb dX10_text_46 rfl (lv_at hl 0 rfl) ?_
    refine lv_iconst (v := 1) hx hb dX10_text_47 (by decide) ?_
    refine mw_put (ci := 10) (v := 1) (ty := .boolean) (C := RX10) (T := TX10) (N := 25) hx hb ht inX10 tyX10 tyX10_ok nmX10 hown hSt hP hS kh (by decide) (mk10 kh) rfl 11 (by decide) (ht _ wf_RX10_108) rfl rfl (by decide +kernel) (by decide) (by decide) (Nat.le_of_ble_eq_true rfl) (by rw [mk10 kh]; simp [mu]) dX10_text_48 (fun M_22 H locs eM_22 hP hS => ?_)
    have hw := hw M_22 eM_22
    refine lv_aload_n hx hb dX10_text_51 rfl (lv_at hl 0 rfl) ?_
    refine mw_V (As := []) (rest := []) (T := TX10) (N := 25) (n := 0) ⟨hx, hb, hml, hown, hts⟩ (so_X10_whole l G h M_22 _ hw) wm_RX10_142 wi_yX10_whole wv_yX10_whole wn_RX10 wc_yX10_whole (by decide) ⟨Nat.le_of_ble_eq_true rfl, Nat.le_of_ble_eq_true rfl⟩ ⟨rfl, rfl⟩ kh (by decide) (mk10 kh) rfl hSt hTb hP hS rfl hl.1 rfl (Nat.le_of_ble_eq_true rfl) dX10_text_52 ⟨Nat.le_refl 0, Nat.le_refl 0⟩ (fun rr_ M_23 H locs hq hP hS => ?_)
    obtain ⟨rfl, hw⟩ := hq
    refine lv_aload_n hx hb dX10_text_55 rfl (lv_at hl 0 rfl) ?_
    refine lv_aload_n hx hb dX10_text_56 rfl (lv_at hl 0 rfl) ?_
    refine mw_get (ci := 10) (v := .int (M_23 h 11)) (C := RX10) (T := TX10) (N := 25) hx hb ht inX10 hown hSt hP kh (by decide) (mk10 kh) rfl 11 (by decide) (ht _ wf_RX10_108) rfl rfl dX10_text_57 ?_
    refine lv_if_eq (tgt := 78) hx hb dX10_text_60 (by decide) (fun c_24 => ?_) (fun c_24 => ?_)
    · have hw := hw.1 c_24
      exact J_78 a1 h M_23 _ _ _ kh hw hP hS (lv_sub hl [0, 1] rfl)
    · have hw := hw.2 c_24
      refine lv_aload_n hx hb dX10_text_63 rfl (lv_at hl 0 rfl) ?_
      refine mw_get (ci := 10) (v := .int (M_23 h 7)) (C := RX10) (T := TX10) (N := 25) hx hb ht inX10 hown hSt hP kh (by decide) (mk10 kh) rfl 7 (by decide) (ht _ wf_RX10_115) rfl rfl dX10_text_64 ?_
      refine lv_aload_n hx hb dX10_text_67 rfl (lv_at hl 0 rfl) ?_
      refine mw_get (ci := 10) (v := .int (M_23 h 8)) (C := RX10) (T := TX10) (N := 25) hx hb ht inX10 hown hSt hP kh (by decide) (mk10 kh) rfl 8 (by decide) (ht _ wf_RX10_104) rfl rfl dX10_text_68 ?_
      refine lv_icmp_ne (tgt := 78) hx hb dX10_text_71 (by decide) (fun c_25 => ?_) (fun c_25 => ?_)
      · have hw := hw.1 c_25
        exact J_78 a1 h M_23 _ _ _ kh hw hP hS (lv_sub hl [0, 1] rfl)
      · have hw := hw.2 c_25
        refine lv_iconst (v := 1) hx hb dX10_text_74 (by decide) ?_
        refine lv_goto (tgt := 79) hx hb dX10_text_75 (by decide) ?_
        exact J_79 a1 h 1 M_23 _ _ _ kh hw hP hS (lv_sub hl [0, 1] rfl)
  · have hw := hw.2 c_15
    refine lv_aload_n hx hb dX10_text_9 rfl (lv_at hl 0 rfl) ?_
    refine lv_ldc (v := (-1000000001)) hx hb hown (ht _ wk_RX10_62) dX10_text_10 ?_
    refine mw_V (As := [.int (-1000000001)]) (rest := []) (T := TX10) (N := 25) (n := 1) ⟨hx, hb, hml, hown, hts⟩ (so_X10_errs l G h (-1000000001) M_13 _ hw) wm_RX10_63 wi_yX10_errs wv_yX10_errs wn_RX10 wc_yX10_errs (by decide) ⟨Nat.le_of_ble_eq_true rfl, Nat.le_of_ble_eq_true rfl⟩ ⟨rfl, rfl⟩ kh (by decide) (mk10 kh) rfl hSt hTb hP hS rfl hl.1 rfl (Nat.le_of_ble_eq_true rfl) dX10_text_12 ⟨Nat.le_refl 0, Nat.le_refl 0⟩ (fun rr_ M_26 H locs hq hP hS => ?_)
    obtain ⟨r_27, rfl, hw⟩ := hq
    exact W.iret hx hb hr (mw_end hP hSt hTb hS ⟨_, rfl, hw⟩) hS.2.2 dX10_text_15
def B_X10_foundSet_4 (h : Nat) (Q : Int32 → Mem → Prop) (K4 : Int32 → Int32 → Mem → Prop) (v1 : Int32) (v2 : Int32) (M : Mem) : Prop :=
  ((M (h + 1) 2) ≤ v2 → Q v1 M) ∧ (¬ (M (h + 1) 2) ≤ v2 → wp_X10_its h v2 5 M (fun r_4 M_3 => ∀ x_5, x_5 = v1 ||| (ish r_4 v2) → ∀ x_6 : Int32, x_6 = v2 + 1 → K4 x_5 x_6 M_3))
def l_X10_foundSet_4 (h : Nat) (Q : Int32 → Mem → Prop) : Nat → Int32 → Int32 → Mem → Prop
  | 0 => fun _ _ _ => False
  | n + 1 => B_X10_foundSet_4 h Q (l_X10_foundSet_4 h Q n)
def wp_X10_foundSet (h : Nat) (M : Mem) (Q : Int32 → Mem → Prop) : Prop :=
  kdT h = 10 ∧ (∃ n, l_X10_foundSet_4 h Q n 0 0 M)
set_option maxHeartbeats 4000000 in
set_option maxRecDepth 100000 in
theorem so_X10_foundSet (l : Launch) (G : Gm) (h : Nat) (M : Mem) (Q : Int32 → Mem → Prop) (hw : wp_X10_foundSet h M Q) : Ct l G yX10_foundSet cX10_foundSet 3 (some .int) ({ frames := 1, cells := 0, slots := 0, locals := 22 } : Room) [.ref (G.1 + h)] M (Qi Q) := by
  unfold wp_X10_foundSet at hw
  obtain ⟨kh, hw⟩ := hw
  refine ct_of (by decide) (Nat.le_of_ble_eq_true rfl) ?_
  intro p e s m below meth c E_ ls H hl hP hS
  obtain ⟨hx, hb, hml, hown, hts, ht, hr, hlocks, hSt, hTb⟩ := E_
  have hl : lv_has ls 3 [(0, .ref (G.1 + h))] := hl
  have L_4 : ∀ (n4 : Nat) (v1 : Int32) (v2 : Int32) (M : Mem) (H : Heap) (locs : List Loc) (ls : Array Slot), l_X10_foundSet_4 h Q n4 v1 v2 M → va_P G.2.1 clsA (wl G M) H → va_S (inW G) s.heap H locs → lv_has ls 3 [(0, .ref (G.1 + h)), (1, .int v1), (2, .int v2)] → W p l e ({ frames := 1, cells := 0, slots := 0, locals := 22 } : Room) s m ([.ref (G.1 + h)] : List Value).toArray below meth c H locs 0 0 (MQ below (Pq G (Qi Q)) ([.ref (G.1 + h)] : List Value).toArray s 0 0 (inW G)) (F0 m 4 ls []) := by
    intro   n4
    induction n4 with
    | zero => intro v1 v2 M H locs ls  hw hP hS hl; exact False.elim hw
    | succ n4 ih4 =>
      intro v1 v2 M H locs ls  hw hP hS hl
      have hw : B_X10_foundSet_4 h Q (l_X10_foundSet_4 h Q n4) v1 v2 M := hw
      unfold B_X10_foundSet_4 at hw
      refine lv_iload_n hx hb dX10_foundSet_4 rfl (lv_at hl 2 rfl) ?_
      refine lv_aload_n hx hb dX10_foundSet_5 rfl (lv_at hl 0 rfl) ?_
      refine mw_get (ci := 10) (v := .ref (G.1 + (h + 1))) (C := RX10) (T := TX10) (N := 25) hx hb ht inX10 hown hSt hP kh (by decide) (mk10 kh) rfl 0 (by decide) (ht _ wf_RX10_7) rfl rfl dX10_foundSet_6 ?_
      refine lv_iconst (v := 2) hx hb dX10_foundSet_9 (by decide) ?_
      refine mw_ialdc hx hb hSt hP (ks10_0 kh) (ln10_0 kh) 2 (by decide) dX10_foundSet_10 ?_
      refine lv_icmp_ge (tgt := 31) hx hb dX10_foundSet_11 (by decide) (fun c_2 => ?_) (fun c_2 => ?_)
      · have hw := hw.1 c_2
        refine lv_iload_n hx hb dX10_foundSet_31 rfl (lv_at hl 1 rfl) ?_
        exact W.iret hx hb hr (mw_end hP hSt hTb hS ⟨_, rfl, hw⟩) hS.2.2 dX10_foundSet_32
      · have hw := hw.2 c_2
        refine lv_iload_n hx hb dX10_foundSet_14 rfl (lv_at hl 1 rfl) ?_
        refine lv_aload_n hx hb dX10_foundSet_15 rfl (lv_at hl 0 rfl) ?_
        refine lv_iload_n hx hb dX10_foundSet_16 rfl (lv_at hl 2 rfl) ?_
        refine lv_iconst (v := 5) hx hb dX10_foundSet_17 (by decide) ?_
        refine mw_V (As := [.int v2, .int 5]) (rest := [.int v1]) (T := TX10) (N := 25) (n := 2) ⟨hx, hb, hml, hown, hts⟩ (so_X10_its l G h v2 5 M _ hw) wm_RX10_67 wi_yX10_its wv_yX10_its wn_RX10 wc_yX10_its (by decide) ⟨Nat.le_of_ble_eq_true rfl, Nat.le_of_ble_eq_true rfl⟩ ⟨rfl, rfl⟩ kh (by decide) (mk10 kh) rfl hSt hTb hP hS rfl hl.1 rfl (Nat.le_of_ble_eq_true rfl) dX10_foundSet_18 ⟨Nat.le_refl 0, Nat.le_refl 0⟩ (fun rr_ M_3 H locs hq hP hS => ?_)
        obtain ⟨r_4, rfl, hw⟩ := hq
        refine lv_iload_n hx hb dX10_foundSet_21 rfl (lv_at hl 2 rfl) ?_
        refine lv_ishl hx hb dX10_foundSet_22 ?_
        refine lv_ior hx hb dX10_foundSet_23 ?_
        refine lv_topi (fun x_5 ex_5 => ?_)
        have hw := hw x_5 ex_5
        refine lv_istore_n (lv' := [(1, .int x_5), (0, .ref (G.1 + h)), (2, .int v2)]) hx hb dX10_foundSet_24 rfl hl (by decide) rfl (fun ls hl => ?_)
        obtain ⟨x_6, ex_6⟩ : ∃ z : Int32, z = v2 + 1 := ⟨_, rfl⟩
        have hw := hw x_6 ex_6
        refine lv_iinc (v := x_6) (lv' := [(2, .int x_6), (1, .int x_5), (0, .ref (G.1 + h))]) hx hb dX10_foundSet_25 hl (k := 2) rfl (by rw [ex_6]; rfl) (by decide) rfl (fun ls hl => ?_)
        refine lv_goto (tgt := 4) hx hb dX10_foundSet_28 (by decide) ?_
        exact ih4 x_5 x_6 M_3 _ _ _ hw hP hS (lv_sub hl [2, 1, 0] rfl)
  refine lv_iconst (v := 0) hx hb dX10_foundSet_0 (by decide) ?_
  refine lv_istore_n (lv' := [(1, .int 0), (0, .ref (G.1 + h))]) hx hb dX10_foundSet_1 rfl hl (by decide) rfl (fun ls hl => ?_)
  refine lv_iconst (v := 0) hx hb dX10_foundSet_2 (by decide) ?_
  refine lv_istore_n (lv' := [(2, .int 0), (1, .int 0), (0, .ref (G.1 + h))]) hx hb dX10_foundSet_3 rfl hl (by decide) rfl (fun ls hl => ?_)
  obtain ⟨n_, hw⟩ := hw
  exact L_4 n_ 0 0 M _ _ _ hw hP hS (lv_sub hl [2, 1, 0] rfl)
def b_X10_seeks_60 (h : Nat) (Q : Mem → Prop) (s0 : Nat) (s1 : Int32) (s2 : Int32) (s3 : Int32) (M : Mem) : Prop :=
  vp_in s1 (lnT s0) ∧ ∀ M_2, M_2 = mu M s0 s1.toNatClampNeg (s2 + s3) → Q M_2
def wp_X10_seeks (h : Nat) (a1 : Int32) (M : Mem) (Q : Mem → Prop) : Prop :=
  kdT h = 10 ∧ (wp_X10_outFor h a1 M (fun r_4 M_3 => vp_in a1 6 ∧ ∀ M_6, M_6 = mu M_3 (h + 8) a1.toNatClampNeg (-1) → (0 ≤ r_4 → wp_X10_its h r_4 2 M_6 (fun r_9 M_8 => wp_X10_at h a1 M_8 (fun r_11 M_10 => (r_9 = r_11 → vp_in (8 + r_9) 242 ∧ (vp_in ((18 + (2 * a1)) + 1) 242 ∧ (wp_X10_held ((M_10 (h + 1) (8 + r_9).toNatClampNeg) - (M_10 (h + 1) ((18 + (2 * a1)) + 1).toNatClampNeg)) 0 999 M_10 (fun r_16 M_15 => vp_in (8 + r_9) 242 ∧ ∀ M_18, M_18 = mu M_15 (h + 1) (8 + r_9).toNatClampNeg r_16 → vp_in (8 + r_9) 242 ∧ (wp_X10_heard h r_4 M_18 (fun r_21 M_20 => (r_21 < (M_18 (h + 1) (8 + r_9).toNatClampNeg) → Q M_20) ∧ (¬ r_21 < (M_18 (h + 1) (8 + r_9).toNatClampNeg) → wp_X10_gets h r_4 5 1 M_20 (fun M_23 => vp_in a1 6 ∧ ∀ M_25, M_25 = mu M_23 (h + 8) a1.toNatClampNeg r_4 → Q M_25)))))))) ∧ (¬ r_9 = r_11 → vp_in (18 + (2 * a1)) 242 ∧ (wp_X10_at h a1 M_10 (fun r_28 M_27 => (r_9 ≤ r_28 → b_X10_seeks_60 h Q (h + 1) (18 + (2 * a1)) (M_10 (h + 1) (18 + (2 * a1)).toNatClampNeg) (-1) M_27) ∧ (¬ r_9 ≤ r_28 → b_X10_seeks_60 h Q (h + 1) (18 + (2 * a1)) (M_10 (h + 1) (18 + (2 * a1)).toNatClampNeg) 1 M_27))))))) ∧ (¬ 0 ≤ r_4 → Q M_6)))
set_option maxHeartbeats 4000000 in
set_option maxRecDepth 100000 in
theorem so_X10_seeks (l : Launch) (G : Gm) (h : Nat) (a1 : Int32) (M : Mem) (Q : Mem → Prop) (hw : wp_X10_seeks h a1 M Q) : Ct l G yX10_seeks cX10_seeks 4 none ({ frames := 4, cells := 0, slots := 0, locals := 100 } : Room) [.ref (G.1 + h), .int a1] M (Qv Q) := by
  unfold wp_X10_seeks at hw
  obtain ⟨kh, hw⟩ := hw
  refine ct_of (by decide) (Nat.le_of_ble_eq_true rfl) ?_
  intro p e s m below meth c E_ ls H hl hP hS
  obtain ⟨hx, hb, hml, hown, hts, ht, hr, hlocks, hSt, hTb⟩ := E_
  have hl : lv_has ls 4 [(0, .ref (G.1 + h)), (1, .int a1)] := hl
  have J_60 : ∀ (s0 : Nat) (s1 : Int32) (s2 : Int32) (s3 : Int32) (M : Mem) (H : Heap) (locs : List Loc) (ls : Array Slot), kdT s0 = 11 → b_X10_seeks_60 h Q s0 s1 s2 s3 M → va_P G.2.1 clsA (wl G M) H → va_S (inW G) s.heap H locs → lv_has ls 4 [(0, .ref (G.1 + h))] → W p l e ({ frames := 4, cells := 0, slots := 0, locals := 100 } : Room) s m ([.ref (G.1 + h), .int a1] : List Value).toArray below meth c H locs 0 0 (MQ below (Pq G (Qv Q)) ([.ref (G.1 + h), .int a1] : List Value).toArray s 0 0 (inW G)) (F0 m 60 ls [.int s3, .int s2, .int s1, .ref (G.1 + s0)]) := by
    intro s0 s1 s2 s3 M H locs ls ks0 hw hP hS hl
    unfold b_X10_seeks_60 at hw
    refine lv_iadd hx hb dX10_seeks_60 ?_
    obtain ⟨c_1, hw⟩ := hw
    refine mw_iast hx hb hSt hP hS ks0 c_1 dX10_seeks_61 (fun M_2 H locs eM_2 hP hS => ?_)
    have hw := hw M_2 eM_2
    exact W.vret hx hb hr (mw_end hP hSt hTb hS ⟨rfl, hw⟩) hS.2.2 dX10_seeks_62
  refine lv_aload_n hx hb dX10_seeks_0 rfl (lv_at hl 0 rfl) ?_
  refine lv_iload_n hx hb dX10_seeks_1 rfl (lv_at hl 1 rfl) ?_
  refine mw_V (As := [.int a1]) (rest := []) (T := TX10) (N := 25) (n := 1) ⟨hx, hb, hml, hown, hts⟩ (so_X10_outFor l G h a1 M _ hw) wm_RX10_81 wi_yX10_outFor wv_yX10_outFor wn_RX10 wc_yX10_outFor (by decide) ⟨Nat.le_of_ble_eq_true rfl, Nat.le_of_ble_eq_true rfl⟩ ⟨rfl, rfl⟩ kh (by decide) (mk10 kh) rfl hSt hTb hP hS rfl hl.1 rfl (Nat.le_of_ble_eq_true rfl) dX10_seeks_2 ⟨Nat.le_refl 0, Nat.le_refl 0⟩ (fun rr_ M_3 H locs hq hP hS => ?_)
  obtain ⟨r_4, rfl, hw⟩ := hq
  refine lv_istore_n (lv' := [(2, .int r_4), (0, .ref (G.1 + h)), (1, .int a1)]) hx hb dX10_seeks_5 rfl hl (by decide) rfl (fun ls hl => ?_)
  refine lv_aload_n hx hb dX10_seeks_6 rfl (lv_at hl 1 rfl) ?_
  refine mw_get (ci := 10) (v := .ref (G.1 + (h + 8))) (C := RX10) (T := TX10) (N := 25) hx hb ht inX10 hown hSt hP kh (by decide) (mk10 kh) rfl 15 (by decide) (ht _ wf_RX10_31) rfl rfl dX10_seeks_7 ?_
  refine lv_iload_n hx hb dX10_seeks_10 rfl (lv_at hl 2 rfl) ?_
  refine lv_iconst (v := (-1)) hx hb dX10_seeks_11 (by decide) ?_
  obtain ⟨c_5, hw⟩ := hw
  refine mw_iast hx hb hSt hP hS (ks10_15 kh) (by rw [(ln10_15 kh)]; exact c_5) dX10_seeks_12 (fun M_6 H locs eM_6 hP hS => ?_)
  have hw := hw M_6 eM_6
  refine lv_iload_n hx hb dX10_seeks_13 rfl (lv_at hl 0 rfl) ?_
  refine lv_if_ge (tgt := 18) hx hb dX10_seeks_14 (by decide) (fun c_7 => ?_) (fun c_7 => ?_)
  · have hw := hw.1 c_7
    refine lv_aload_n hx hb dX10_seeks_18 rfl (lv_at hl 1 rfl) ?_
    refine lv_iload_n hx hb dX10_seeks_19 rfl (lv_at hl 0 rfl) ?_
    refine lv_iconst (v := 2) hx hb dX10_seeks_20 (by decide) ?_
    refine mw_V (As := [.int r_4, .int 2]) (rest := []) (T := TX10) (N := 25) (n := 2) ⟨hx, hb, hml, hown, hts⟩ (so_X10_its l G h r_4 2 M_6 _ hw) wm_RX10_67 wi_yX10_its wv_yX10_its wn_RX10 wc_yX10_its (by decide) ⟨Nat.le_of_ble_eq_true rfl, Nat.le_of_ble_eq_true rfl⟩ ⟨rfl, rfl⟩ kh (by decide) (mk10 kh) rfl hSt hTb hP hS rfl hl.1 rfl (Nat.le_of_ble_eq_true rfl) dX10_seeks_21 ⟨Nat.le_refl 0, Nat.le_refl 0⟩ (fun rr_ M_8 H locs hq hP hS => ?_)
    obtain ⟨r_9, rfl, hw⟩ := hq
    refine lv_istore_n (lv' := [(3, .int r_9), (2, .int r_4), (0, .ref (G.1 + h)), (1, .int a1)]) hx hb dX10_seeks_24 rfl hl (by decide) rfl (fun ls hl => ?_)
    refine lv_iload_n hx hb dX10_seeks_25 rfl (lv_at hl 0 rfl) ?_
    refine lv_aload_n hx hb dX10_seeks_26 rfl (lv_at hl 2 rfl) ?_
    refine lv_iload_n hx hb dX10_seeks_27 rfl (lv_at hl 3 rfl) ?_
    refine mw_V (As := [.int a1]) (rest := [.int r_9]) (T := TX10) (N := 25) (n := 1) ⟨hx, hb, hml, hown, hts⟩ (so_X10_at l G h a1 M_8 _ hw) wm_RX10_70 wi_yX10_at wv_yX10_at wn_RX10 wc_yX10_at (by decide) ⟨Nat.le_of_ble_eq_true rfl, Nat.le_of_ble_eq_true rfl⟩ ⟨rfl, rfl⟩ kh (by decide) (mk10 kh) rfl hSt hTb hP hS rfl hl.1 rfl (Nat.le_of_ble_eq_true rfl) dX10_seeks_28 ⟨Nat.le_refl 0, Nat.le_refl 0⟩ (fun rr_ M_10 H locs hq hP hS => ?_)
    obtain ⟨r_11, rfl, hw⟩ := hq
    refine lv_icmp_eq (tgt := 63) hx hb dX10_seeks_31 (by decide) (fun c_12 => ?_) (fun c_12 => ?_)
    · have hw := hw.1 c_12
      refine lv_aload_n hx hb dX10_seeks_63 rfl (lv_at hl 2 rfl) ?_
      refine mw_get (ci := 10) (v := .ref (G.1 + (h + 1))) (C := RX10) (T := TX10) (N := 25) hx hb ht inX10 hown hSt hP kh (by decide) (mk10 kh) rfl 0 (by decide) (ht _ wf_RX10_7) rfl rfl dX10_seeks_64 ?_
      refine lv_bipush (v := 8) hx hb dX10_seeks_67 (by decide) ?_
      refine lv_iload_n hx hb dX10_seeks_69 rfl (lv_at hl 0 rfl) ?_
      refine lv_iadd hx hb dX10_seeks_70 ?_
      refine lv_aload_n hx hb dX10_seeks_71 rfl (lv_at hl 2 rfl) ?_
      refine mw_get (ci := 10) (v := .ref (G.1 + (h + 1))) (C := RX10) (T := TX10) (N := 25) hx hb ht inX10 hown hSt hP kh (by decide) (mk10 kh) rfl 0 (by decide) (ht _ wf_RX10_7) rfl rfl dX10_seeks_72 ?_
      refine lv_bipush (v := 8) hx hb dX10_seeks_75 (by decide) ?_
      refine lv_iload_n hx hb dX10_seeks_77 rfl (lv_at hl 0 rfl) ?_
      refine lv_iadd hx hb dX10_seeks_78 ?_
      obtain ⟨c_13, hw⟩ := hw
      refine mw_iald hx hb hSt hP (ks10_0 kh) (by rw [(ln10_0 kh)]; exact c_13) dX10_seeks_79 ?_
      refine lv_aload_n hx hb dX10_seeks_80 rfl (lv_at hl 2 rfl) ?_
      refine mw_get (ci := 10) (v := .ref (G.1 + (h + 1))) (C := RX10) (T := TX10) (N := 25) hx hb ht inX10 hown hSt hP kh (by decide) (mk10 kh) rfl 0 (by decide) (ht _ wf_RX10_7) rfl rfl dX10_seeks_81 ?_
      refine lv_bipush (v := 18) hx hb dX10_seeks_84 (by decide) ?_
      refine lv_iconst (v := 2) hx hb dX10_seeks_86 (by decide) ?_
      refine lv_iload_n hx hb dX10_seeks_87 rfl (lv_at hl 3 rfl) ?_
      refine lv_imul hx hb dX10_seeks_88 ?_
      refine lv_iadd hx hb dX10_seeks_89 ?_
      refine lv_iconst (v := 1) hx hb dX10_seeks_90 (by decide) ?_
      refine lv_iadd hx hb dX10_seeks_91 ?_
      obtain ⟨c_14, hw⟩ := hw
      refine mw_iald hx hb hSt hP (ks10_0 kh) (by rw [(ln10_0 kh)]; exact c_14) dX10_seeks_92 ?_
      refine lv_isub hx hb dX10_seeks_93 ?_
      refine lv_iconst (v := 0) hx hb dX10_seeks_94 (by decide) ?_
      refine lv_sipush (v := 999) hx hb dX10_seeks_95 (by decide) ?_
      refine mw_Sx (As := [.int ((M_10 (h + 1) (8 + r_9).toNatClampNeg) - (M_10 (h + 1) ((18 + (2 * a1)) + 1).toNatClampNeg)), .int 0, .int 999]) (rest := [.int (8 + r_9), .ref (G.1 + (h + 1))]) (n := 3) ⟨hx, hb, hml, hown, hts⟩ (so_X10_held l G ((M_10 (h + 1) (8 + r_9).toNatClampNeg) - (M_10 (h + 1) ((18 + (2 * a1)) + 1).toNatClampNeg)) 0 999 M_10 _ hw) wm_RX10_165 wt_yX10_held wn_RX10 wc_yX10_held (by decide) ⟨Nat.le_of_ble_eq_true rfl, Nat.le_of_ble_eq_true rfl⟩ ⟨rfl, rfl⟩ hSt hTb hP hS rfl hl.1 rfl (Nat.le_of_ble_eq_true rfl) dX10_seeks_98 ⟨Nat.le_refl 0, Nat.le_refl 0⟩ (fun rr_ M_15 H locs hq hP hS => ?_)
      obtain ⟨r_16, rfl, hw⟩ := hq
      obtain ⟨c_17, hw⟩ := hw
      refine mw_iast hx hb hSt hP hS (ks10_0 kh) (by rw [(ln10_0 kh)]; exact c_17) dX10_seeks_101 (fun M_18 H locs eM_18 hP hS => ?_)
      have hw := hw M_18 eM_18
      refine lv_aload_n hx hb dX10_seeks_102 rfl (lv_at hl 2 rfl) ?_
      refine mw_get (ci := 10) (v := .ref (G.1 + (h + 1))) (C := RX10) (T := TX10) (N := 25) hx hb ht inX10 hown hSt hP kh (by decide) (mk10 kh) rfl 0 (by decide) (ht _ wf_RX10_7) rfl rfl dX10_seeks_103 ?_
      refine lv_bipush (v := 8) hx hb dX10_seeks_106 (by decide) ?_
      refine lv_iload_n hx hb dX10_seeks_108 rfl (lv_at hl 0 rfl) ?_
      refine lv_iadd hx hb dX10_seeks_109 ?_
      obtain ⟨c_19, hw⟩ := hw
      refine mw_iald hx hb hSt hP (ks10_0 kh) (by rw [(ln10_0 kh)]; exact c_19) dX10_seeks_110 ?_
      refine lv_aload_n hx hb dX10_seeks_111 rfl (lv_at hl 2 rfl) ?_
      refine lv_iload_n hx hb dX10_seeks_112 rfl (lv_at hl 1 rfl) ?_
      refine mw_V (As := [.int r_4]) (rest := [.int (M_18 (h + 1) (8 + r_9).toNatClampNeg)]) (T := TX10) (N := 25) (n := 1) ⟨hx, hb, hml, hown, hts⟩ (so_X10_heard l G h r_4 M_18 _ hw) wm_RX10_94 wi_yX10_heard wv_yX10_heard wn_RX10 wc_yX10_heard (by decide) ⟨Nat.le_of_ble_eq_true rfl, Nat.le_of_ble_eq_true rfl⟩ ⟨rfl, rfl⟩ kh (by decide) (mk10 kh) rfl hSt hTb hP hS rfl hl.1 rfl (Nat.le_of_ble_eq_true rfl) dX10_seeks_113 ⟨Nat.le_refl 0, Nat.le_refl 0⟩ (fun rr_ M_20 H locs hq hP hS => ?_)
      obtain ⟨r_21, rfl, hw⟩ := hq
      refine lv_icmp_gt (tgt := 133) hx hb dX10_seeks_116 (by decide) (fun c_22 => ?_) (fun c_22 => ?_)
      · have hw := hw.1 c_22
        exact W.vret hx hb hr (mw_end hP hSt hTb hS ⟨rfl, hw⟩) hS.2.2 dX10_seeks_133
      · have hw := hw.2 c_22
        refine lv_aload_n hx hb dX10_seeks_119 rfl (lv_at hl 2 rfl) ?_
        refine lv_iload_n hx hb dX10_seeks_120 rfl (lv_at hl 1 rfl) ?_
        refine lv_iconst (v := 5) hx hb dX10_seeks_121 (by decide) ?_
        refine lv_iconst (v := 1) hx hb dX10_seeks_122 (by decide) ?_
        refine mw_V (As := [.int r_4, .int 5, .int 1]) (rest := []) (T := TX10) (N := 25) (n := 3) ⟨hx, hb, hml, hown, hts⟩ (so_X10_gets l G h r_4 5 1 M_20 _ hw) wm_RX10_87 wi_yX10_gets wv_yX10_gets wn_RX10 wc_yX10_gets (by decide) ⟨Nat.le_of_ble_eq_true rfl, Nat.le_of_ble_eq_true rfl⟩ ⟨rfl, rfl⟩ kh (by decide) (mk10 kh) rfl hSt hTb hP hS rfl hl.1 rfl (Nat.le_of_ble_eq_true rfl) dX10_seeks_123 ⟨Nat.le_refl 0, Nat.le_refl 0⟩ (fun rr_ M_23 H locs hq hP hS => ?_)
        obtain ⟨rfl, hw⟩ := hq
        refine lv_aload_n hx hb dX10_seeks_126 rfl (lv_at hl 2 rfl) ?_
        refine mw_get (ci := 10) (v := .ref (G.1 + (h + 8))) (C := RX10) (T := TX10) (N := 25) hx hb ht inX10 hown hSt hP kh (by decide) (mk10 kh) rfl 15 (by decide) (ht _ wf_RX10_31) rfl rfl dX10_seeks_127 ?_
        refine lv_iload_n hx hb dX10_seeks_130 rfl (lv_at hl 3 rfl) ?_
        refine lv_iload_n hx hb dX10_seeks_131 rfl (lv_at hl 1 rfl) ?_
        obtain ⟨c_24, hw⟩ := hw
        refine mw_iast hx hb hSt hP hS (ks10_15 kh) (by rw [(ln10_15 kh)]; exact c_24) dX10_seeks_132 (fun M_25 H locs eM_25 hP hS => ?_)
        have hw := hw M_25 eM_25
        exact W.vret hx hb hr (mw_end hP hSt hTb hS ⟨rfl, hw⟩) hS.2.2 dX10_seeks_133
    · have hw := hw.2 c_12
      refine lv_aload_n hx hb dX10_seeks_34 rfl (lv_at hl 2 rfl) ?_
      refine mw_get (ci := 10) (v := .ref (G.1 + (h + 1))) (C := RX10) (T := TX10) (N := 25) hx hb ht inX10 hown hSt hP kh (by decide) (mk10 kh) rfl 0 (by decide) (ht _ wf_RX10_7) rfl rfl dX10_seeks_35 ?_
      refine lv_bipush (v := 18) hx hb dX10_seeks_38 (by decide) ?_
      refine lv_iconst (v := 2) hx hb dX10_seeks_40 (by decide) ?_
      refine lv_iload_n hx hb dX10_seeks_41 rfl (lv_at hl 3 rfl) ?_
      refine lv_imul hx hb dX10_seeks_42 ?_
      refine lv_iadd hx hb dX10_seeks_43 ?_
      refine lv_dup2_11 hx hb dX10_seeks_44 rfl rfl ?_
      obtain ⟨c_26, hw⟩ := hw
      refine mw_iald hx hb hSt hP (ks10_0 kh) (by rw [(ln10_0 kh)]; exact c_26) dX10_seeks_45 ?_
      refine lv_iload_n hx hb dX10_seeks_46 rfl (lv_at hl 0 rfl) ?_
      refine lv_aload_n hx hb dX10_seeks_47 rfl (lv_at hl 2 rfl) ?_
      refine lv_iload_n hx hb dX10_seeks_48 rfl (lv_at hl 3 rfl) ?_
      refine mw_V (As := [.int a1]) (rest := [.int r_9, .int (M_10 (h + 1) (18 + (2 * a1)).toNatClampNeg), .int (18 + (2 * a1)), .ref (G.1 + (h + 1))]) (T := TX10) (N := 25) (n := 1) ⟨hx, hb, hml, hown, hts⟩ (so_X10_at l G h a1 M_10 _ hw) wm_RX10_70 wi_yX10_at wv_yX10_at wn_RX10 wc_yX10_at (by decide) ⟨Nat.le_of_ble_eq_true rfl, Nat.le_of_ble_eq_true rfl⟩ ⟨rfl, rfl⟩ kh (by decide) (mk10 kh) rfl hSt hTb hP hS rfl hl.1 rfl (Nat.le_of_ble_eq_true rfl) dX10_seeks_49 ⟨Nat.le_refl 0, Nat.le_refl 0⟩ (fun rr_ M_27 H locs hq hP hS => ?_)
      obtain ⟨r_28, rfl, hw⟩ := hq
      refine lv_icmp_le (tgt := 59) hx hb dX10_seeks_52 (by decide) (fun c_29 => ?_) (fun c_29 => ?_)
      · have hw := hw.1 c_29
        refine lv_iconst (v := (-1)) hx hb dX10_seeks_59 (by decide) ?_
        exact J_60 (h + 1) (18 + (2 * a1)) (M_10 (h + 1) (18 + (2 * a1)).toNatClampNeg) (-1) M_27 _ _ _ (ks10_0 kh) hw hP hS (lv_sub hl [2] rfl)
      · have hw := hw.2 c_29
        refine lv_iconst (v := 1) hx hb dX10_seeks_55 (by decide) ?_
        refine lv_goto (tgt := 60) hx hb dX10_seeks_56 (by decide) ?_
        exact J_60 (h + 1) (18 + (2 * a1)) (M_10 (h + 1) (18 + (2 * a1)).toNatClampNeg) 1 M_27 _ _ _ (ks10_0 kh) hw hP hS (lv_sub hl [2] rfl)
  · have hw := hw.2 c_7
    exact W.vret hx hb hr (mw_end hP hSt hTb hS ⟨rfl, hw⟩) hS.2.2 dX10_seeks_17
def b_X10_oneHour_149 (h : Nat) (Q : Mem → Prop) (K89 : Int32 → Mem → Prop) (v1 : Int32) (M : Mem) : Prop :=
  ∀ x_1 : Int32, x_1 = v1 + 1 → K89 x_1 M
def B_X10_oneHour_89 (h : Nat) (Q : Mem → Prop) (K89 : Int32 → Mem → Prop) (v1 : Int32) (M : Mem) : Prop :=
  ((M (h + 1) 2) ≤ v1 → ∀ M_6, M_6 = mu M (h + 1) 0 ((M (h + 1) 0) + 1) → Q M_6) ∧ (¬ (M (h + 1) 2) ≤ v1 → wp_X10_its h v1 5 M (fun r_8 M_7 => (¬ r_8 = 0 → b_X10_oneHour_149 h Q K89 v1 M_7) ∧ (r_8 = 0 → wp_X10_its h v1 2 M_7 (fun r_11 M_10 => vp_in (8 + r_11) 242 ∧ (((M_10 (h + 1) (8 + r_11).toNatClampNeg) ≤ 0 → b_X10_oneHour_149 h Q K89 v1 M_10) ∧ (¬ (M_10 (h + 1) (8 + r_11).toNatClampNeg) ≤ 0 → wp_X10_its h v1 3 M_10 (fun r_15 M_14 => wp_X10_cold h v1 M_14 (fun r_17 M_16 => wp_X10_held (r_15 - r_17) 0 99 M_16 (fun r_19 M_18 => wp_X10_gets h v1 3 r_19 M_18 (fun M_20 => b_X10_oneHour_149 h Q K89 v1 M_20))))))))))
def l_X10_oneHour_89 (h : Nat) (Q : Mem → Prop) : Nat → Int32 → Mem → Prop
  | 0 => fun _ _ => False
  | n + 1 => B_X10_oneHour_89 h Q (l_X10_oneHour_89 h Q n)
def B_X10_oneHour_66 (h : Nat) (Q : Mem → Prop) (K66 : Int32 → Mem → Prop) (v1 : Int32) (M : Mem) : Prop :=
  ((M (h + 1) 3) ≤ v1 → ∃ n, l_X10_oneHour_89 h Q n 0 M) ∧ (¬ (M (h + 1) 3) ≤ v1 → wp_X10_seeks h v1 M (fun M_23 => ∀ x_24 : Int32, x_24 = v1 + 1 → K66 x_24 M_23))
def l_X10_oneHour_66 (h : Nat) (Q : Mem → Prop) : Nat → Int32 → Mem → Prop
  | 0 => fun _ _ => False
  | n + 1 => B_X10_oneHour_66 h Q (l_X10_oneHour_66 h Q n)
def B_X10_oneHour_2 (h : Nat) (Q : Mem → Prop) (K2 : Int32 → Mem → Prop) (v1 : Int32) (M : Mem) : Prop :=
  (10 ≤ v1 → ∃ n, l_X10_oneHour_66 h Q n 0 M) ∧ (¬ 10 ≤ v1 → vp_in (8 + v1) 242 ∧ (vp_in (8 + v1) 242 ∧ (wp_X10_lawOf h 0 v1 (M (h + 1) (8 + v1).toNatClampNeg) (irm (M (h + 1) 0) 24) M (fun r_30 M_29 => wp_X10_held ((M (h + 1) (8 + v1).toNatClampNeg) + r_30) 0 999 M_29 (fun r_32 M_31 => vp_in (8 + v1) 242 ∧ ∀ M_34, M_34 = mu M_31 (h + 1) (8 + v1).toNatClampNeg r_32 → ∀ x_35 : Int32, x_35 = v1 + 1 → K2 x_35 M_34)))))
def l_X10_oneHour_2 (h : Nat) (Q : Mem → Prop) : Nat → Int32 → Mem → Prop
  | 0 => fun _ _ => False
  | n + 1 => B_X10_oneHour_2 h Q (l_X10_oneHour_2 h Q n)
def wp_X10_oneHour (h : Nat) (M : Mem) (Q : Mem → Prop) : Prop :=
  kdT h = 10 ∧ (∃ n, l_X10_oneHour_2 h Q n 0 M)
set_option maxHeartbeats 4000000 in
set_option maxRecDepth 100000 in
theorem so_X10_oneHour (l : Launch) (G : Gm) (h : Nat) (M : Mem) (Q : Mem → Prop) (hw : wp_X10_oneHour h M Q) : Ct l G yX10_oneHour cX10_oneHour 2 none ({ frames := 5, cells := 0, slots := 0, locals := 123 } : Room) [.ref (G.1 + h)] M (Qv Q) := by
  unfold wp_X10_oneHour at hw
  obtain ⟨kh, hw⟩ := hw
  refine ct_of (by decide) (Nat.le_of_ble_eq_true rfl) ?_
  intro p e s m below meth c E_ ls H hl hP hS
  obtain ⟨hx, hb, hml, hown, hts, ht, hr, hlocks, hSt, hTb⟩ := E_
  have hl : lv_has ls 2 [(0, .ref (G.1 + h))] := hl
  have L_89 : ∀ (n89 : Nat) (v1 : Int32) (M : Mem) (H : Heap) (locs : List Loc) (ls : Array Slot), l_X10_oneHour_89 h Q n89 v1 M → va_P G.2.1 clsA (wl G M) H → va_S (inW G) s.heap H locs → lv_has ls 2 [(0, .ref (G.1 + h)), (1, .int v1)] → W p l e ({ frames := 5, cells := 0, slots := 0, locals := 123 } : Room) s m ([.ref (G.1 + h)] : List Value).toArray below meth c H locs 0 0 (MQ below (Pq G (Qv Q)) ([.ref (G.1 + h)] : List Value).toArray s 0 0 (inW G)) (F0 m 89 ls []) := by
    intro   n89
    induction n89 with
    | zero => intro v1 M H locs ls  hw hP hS hl; exact False.elim hw
    | succ n89 ih89 =>
      have J_149 : ∀ (v1 : Int32) (M : Mem) (H : Heap) (locs : List Loc) (ls : Array Slot), b_X10_oneHour_149 h Q (l_X10_oneHour_89 h Q n89) v1 M → va_P G.2.1 clsA (wl G M) H → va_S (inW G) s.heap H locs → lv_has ls 2 [(0, .ref (G.1 + h)), (1, .int v1)] → W p l e ({ frames := 5, cells := 0, slots := 0, locals := 123 } : Room) s m ([.ref (G.1 + h)] : List Value).toArray below meth c H locs 0 0 (MQ below (Pq G (Qv Q)) ([.ref (G.1 + h)] : List Value).toArray s 0 0 (inW G)) (F0 m 149 ls []) := by
        intro v1 M H locs ls  hw hP hS hl
        unfold b_X10_oneHour_149 at hw
        obtain ⟨x_1, ex_1⟩ : ∃ z : Int32, z = v1 + 1 := ⟨_, rfl⟩
        have hw := hw x_1 ex_1
        refine lv_iinc (v := x_1) (lv' := [(1, .int x_1), (0, .ref (G.1 + h))]) hx hb dX10_oneHour_149 hl (k := 1) rfl (by rw [ex_1]; rfl) (by decide) rfl (fun ls hl => ?_)
        refine lv_goto (tgt := 89) hx hb dX10_oneHour_152 (by decide) ?_
        exact ih89 x_1 M _ _ _ hw hP hS (lv_sub hl [1, 0] rfl)
      intro v1 M H locs ls  hw hP hS hl
      have hw : B_X10_oneHour_89 h Q (l_X10_oneHour_89 h Q n89) v1 M := hw
      unfold B_X10_oneHour_89 at hw
      refine lv_iload_n hx hb dX10_oneHour_89 rfl (lv_at hl 1 rfl) ?_
      refine lv_aload_n hx hb dX10_oneHour_90 rfl (lv_at hl 0 rfl) ?_
      refine mw_get (ci := 10) (v := .ref (G.1 + (h + 1))) (C := RX10) (T := TX10) (N := 25) hx hb ht inX10 hown hSt hP kh (by decide) (mk10 kh) rfl 0 (by decide) (ht _ wf_RX10_7) rfl rfl dX10_oneHour_91 ?_
      refine lv_iconst (v := 2) hx hb dX10_oneHour_94 (by decide) ?_
      refine mw_ialdc hx hb hSt hP (ks10_0 kh) (ln10_0 kh) 2 (by decide) dX10_oneHour_95 ?_
      refine lv_icmp_ge (tgt := 155) hx hb dX10_oneHour_96 (by decide) (fun c_3 => ?_) (fun c_3 => ?_)
      · have hw := hw.1 c_3
        refine lv_aload_n hx hb dX10_oneHour_155 rfl (lv_at hl 0 rfl) ?_
        refine mw_get (ci := 10) (v := .ref (G.1 + (h + 1))) (C := RX10) (T := TX10) (N := 25) hx hb ht inX10 hown hSt hP kh (by decide) (mk10 kh) rfl 0 (by decide) (ht _ wf_RX10_7) rfl rfl dX10_oneHour_156 ?_
        refine lv_iconst (v := 0) hx hb dX10_oneHour_159 (by decide) ?_
        refine lv_dup2_11 hx hb dX10_oneHour_160 rfl rfl ?_
        refine mw_ialdc hx hb hSt hP (ks10_0 kh) (ln10_0 kh) 0 (by decide) dX10_oneHour_161 ?_
        refine lv_iconst (v := 1) hx hb dX10_oneHour_162 (by decide) ?_
        refine lv_iadd hx hb dX10_oneHour_163 ?_
        refine mw_iastc hx hb hSt hP hS (ks10_0 kh) (ln10_0 kh) 0 (by decide) dX10_oneHour_164 (fun M_6 H locs eM_6 hP hS => ?_)
        have hw := hw M_6 eM_6
        exact W.vret hx hb hr (mw_end hP hSt hTb hS ⟨rfl, hw⟩) hS.2.2 dX10_oneHour_165
      · have hw := hw.2 c_3
        refine lv_aload_n hx hb dX10_oneHour_99 rfl (lv_at hl 0 rfl) ?_
        refine lv_iload_n hx hb dX10_oneHour_100 rfl (lv_at hl 1 rfl) ?_
        refine lv_iconst (v := 5) hx hb dX10_oneHour_101 (by decide) ?_
        refine mw_V (As := [.int v1, .int 5]) (rest := []) (T := TX10) (N := 25) (n := 2) ⟨hx, hb, hml, hown, hts⟩ (so_X10_its l G h v1 5 M _ hw) wm_RX10_67 wi_yX10_its wv_yX10_its wn_RX10 wc_yX10_its (by decide) ⟨Nat.le_of_ble_eq_true rfl, Nat.le_of_ble_eq_true rfl⟩ ⟨rfl, rfl⟩ kh (by decide) (mk10 kh) rfl hSt hTb hP hS rfl hl.1 rfl (Nat.le_of_ble_eq_true rfl) dX10_oneHour_102 ⟨Nat.le_refl 0, Nat.le_refl 0⟩ (fun rr_ M_7 H locs hq hP hS => ?_)
        obtain ⟨r_8, rfl, hw⟩ := hq
        refine lv_if_ne (tgt := 149) hx hb dX10_oneHour_105 (by decide) (fun c_9 => ?_) (fun c_9 => ?_)
        · have hw := hw.1 c_9
          exact J_149 v1 M_7 _ _ _ hw hP hS (lv_sub hl [0, 1] rfl)
        · have hw := hw.2 c_9
          refine lv_aload_n hx hb dX10_oneHour_108 rfl (lv_at hl 0 rfl) ?_
          refine mw_get (ci := 10) (v := .ref (G.1 + (h + 1))) (C := RX10) (T := TX10) (N := 25) hx hb ht inX10 hown hSt hP kh (by decide) (mk10 kh) rfl 0 (by decide) (ht _ wf_RX10_7) rfl rfl dX10_oneHour_109 ?_
          refine lv_bipush (v := 8) hx hb dX10_oneHour_112 (by decide) ?_
          refine lv_aload_n hx hb dX10_oneHour_114 rfl (lv_at hl 0 rfl) ?_
          refine lv_iload_n hx hb dX10_oneHour_115 rfl (lv_at hl 1 rfl) ?_
          refine lv_iconst (v := 2) hx hb dX10_oneHour_116 (by decide) ?_
          refine mw_V (As := [.int v1, .int 2]) (rest := [.int 8, .ref (G.1 + (h + 1))]) (T := TX10) (N := 25) (n := 2) ⟨hx, hb, hml, hown, hts⟩ (so_X10_its l G h v1 2 M_7 _ hw) wm_RX10_67 wi_yX10_its wv_yX10_its wn_RX10 wc_yX10_its (by decide) ⟨Nat.le_of_ble_eq_true rfl, Nat.le_of_ble_eq_true rfl⟩ ⟨rfl, rfl⟩ kh (by decide) (mk10 kh) rfl hSt hTb hP hS rfl hl.1 rfl (Nat.le_of_ble_eq_true rfl) dX10_oneHour_117 ⟨Nat.le_refl 0, Nat.le_refl 0⟩ (fun rr_ M_10 H locs hq hP hS => ?_)
          obtain ⟨r_11, rfl, hw⟩ := hq
          refine lv_iadd hx hb dX10_oneHour_120 ?_
          obtain ⟨c_12, hw⟩ := hw
          refine mw_iald hx hb hSt hP (ks10_0 kh) (by rw [(ln10_0 kh)]; exact c_12) dX10_oneHour_121 ?_
          refine lv_if_le (tgt := 149) hx hb dX10_oneHour_122 (by decide) (fun c_13 => ?_) (fun c_13 => ?_)
          · have hw := hw.1 c_13
            exact J_149 v1 M_10 _ _ _ hw hP hS (lv_sub hl [0, 1] rfl)
          · have hw := hw.2 c_13
            refine lv_aload_n hx hb dX10_oneHour_125 rfl (lv_at hl 0 rfl) ?_
            refine lv_iload_n hx hb dX10_oneHour_126 rfl (lv_at hl 1 rfl) ?_
            refine lv_iconst (v := 3) hx hb dX10_oneHour_127 (by decide) ?_
            refine lv_aload_n hx hb dX10_oneHour_128 rfl (lv_at hl 0 rfl) ?_
            refine lv_iload_n hx hb dX10_oneHour_129 rfl (lv_at hl 1 rfl) ?_
            refine lv_iconst (v := 3) hx hb dX10_oneHour_130 (by decide) ?_
            refine mw_V (As := [.int v1, .int 3]) (rest := [.int 3, .int v1, .ref (G.1 + h)]) (T := TX10) (N := 25) (n := 2) ⟨hx, hb, hml, hown, hts⟩ (so_X10_its l G h v1 3 M_10 _ hw) wm_RX10_67 wi_yX10_its wv_yX10_its wn_RX10 wc_yX10_its (by decide) ⟨Nat.le_of_ble_eq_true rfl, Nat.le_of_ble_eq_true rfl⟩ ⟨rfl, rfl⟩ kh (by decide) (mk10 kh) rfl hSt hTb hP hS rfl hl.1 rfl (Nat.le_of_ble_eq_true rfl) dX10_oneHour_131 ⟨Nat.le_refl 0, Nat.le_refl 0⟩ (fun rr_ M_14 H locs hq hP hS => ?_)
            obtain ⟨r_15, rfl, hw⟩ := hq
            refine lv_aload_n hx hb dX10_oneHour_134 rfl (lv_at hl 0 rfl) ?_
            refine lv_iload_n hx hb dX10_oneHour_135 rfl (lv_at hl 1 rfl) ?_
            refine mw_V (As := [.int v1]) (rest := [.int r_15, .int 3, .int v1, .ref (G.1 + h)]) (T := TX10) (N := 25) (n := 1) ⟨hx, hb, hml, hown, hts⟩ (so_X10_cold l G h v1 M_14 _ hw) wm_RX10_97 wi_yX10_cold wv_yX10_cold wn_RX10 wc_yX10_cold (by decide) ⟨Nat.le_of_ble_eq_true rfl, Nat.le_of_ble_eq_true rfl⟩ ⟨rfl, rfl⟩ kh (by decide) (mk10 kh) rfl hSt hTb hP hS rfl hl.1 rfl (Nat.le_of_ble_eq_true rfl) dX10_oneHour_136 ⟨Nat.le_refl 0, Nat.le_refl 0⟩ (fun rr_ M_16 H locs hq hP hS => ?_)
            obtain ⟨r_17, rfl, hw⟩ := hq
            refine lv_isub hx hb dX10_oneHour_139 ?_
            refine lv_iconst (v := 0) hx hb dX10_oneHour_140 (by decide) ?_
            refine lv_bipush (v := 99) hx hb dX10_oneHour_141 (by decide) ?_
            refine mw_Sx (As := [.int (r_15 - r_17), .int 0, .int 99]) (rest := [.int 3, .int v1, .ref (G.1 + h)]) (n := 3) ⟨hx, hb, hml, hown, hts⟩ (so_X10_held l G (r_15 - r_17) 0 99 M_16 _ hw) wm_RX10_165 wt_yX10_held wn_RX10 wc_yX10_held (by decide) ⟨Nat.le_of_ble_eq_true rfl, Nat.le_of_ble_eq_true rfl⟩ ⟨rfl, rfl⟩ hSt hTb hP hS rfl hl.1 rfl (Nat.le_of_ble_eq_true rfl) dX10_oneHour_143 ⟨Nat.le_refl 0, Nat.le_refl 0⟩ (fun rr_ M_18 H locs hq hP hS => ?_)
            obtain ⟨r_19, rfl, hw⟩ := hq
            refine mw_V (As := [.int v1, .int 3, .int r_19]) (rest := []) (T := TX10) (N := 25) (n := 3) ⟨hx, hb, hml, hown, hts⟩ (so_X10_gets l G h v1 3 r_19 M_18 _ hw) wm_RX10_87 wi_yX10_gets wv_yX10_gets wn_RX10 wc_yX10_gets (by decide) ⟨Nat.le_of_ble_eq_true rfl, Nat.le_of_ble_eq_true rfl⟩ ⟨rfl, rfl⟩ kh (by decide) (mk10 kh) rfl hSt hTb hP hS rfl hl.1 rfl (Nat.le_of_ble_eq_true rfl) dX10_oneHour_146 ⟨Nat.le_refl 0, Nat.le_refl 0⟩ (fun rr_ M_20 H locs hq hP hS => ?_)
            obtain ⟨rfl, hw⟩ := hq
            exact J_149 v1 M_20 _ _ _ hw hP hS (lv_sub hl [0, 1] rfl)
  have L_66 : ∀ (n66 : Nat) (v1 : Int32) (M : Mem) (H : Heap) (locs : List Loc) (ls : Array Slot), l_X10_oneHour_66 h Q n66 v1 M → va_P G.2.1 clsA (wl G M) H → va_S (inW G) s.heap H locs → lv_has ls 2 [(0, .ref (G.1 + h)), (1, .int v1)] → W p l e ({ frames := 5, cells := 0, slots := 0, locals := 123 } : Room) s m ([.ref (G.1 + h)] : List Value).toArray below meth c H locs 0 0 (MQ below (Pq G (Qv Q)) ([.ref (G.1 + h)] : List Value).toArray s 0 0 (inW G)) (F0 m 66 ls []) := by
    intro   n66
    induction n66 with
    | zero => intro v1 M H locs ls  hw hP hS hl; exact False.elim hw
    | succ n66 ih66 =>
      intro v1 M H locs ls  hw hP hS hl
      have hw : B_X10_oneHour_66 h Q (l_X10_oneHour_66 h Q n66) v1 M := hw
      unfold B_X10_oneHour_66 at hw
      refine lv_iload_n hx hb dX10_oneHour_66 rfl (lv_at hl 1 rfl) ?_
      refine lv_aload_n hx hb dX10_oneHour_67 rfl (lv_at hl 0 rfl) ?_
      refine mw_get (ci := 10) (v := .ref (G.1 + (h + 1))) (C := RX10) (T := TX10) (N := 25) hx hb ht inX10 hown hSt hP kh (by decide) (mk10 kh) rfl 0 (by decide) (ht _ wf_RX10_7) rfl rfl dX10_oneHour_68 ?_
      refine lv_iconst (v := 3) hx hb dX10_oneHour_71 (by decide) ?_
      refine mw_ialdc hx hb hSt hP (ks10_0 kh) (ln10_0 kh) 3 (by decide) dX10_oneHour_72 ?_
      refine lv_icmp_ge (tgt := 87) hx hb dX10_oneHour_73 (by decide) (fun c_22 => ?_) (fun c_22 => ?_)
      · have hw := hw.1 c_22
        refine lv_iconst (v := 0) hx hb dX10_oneHour_87 (by decide) ?_
        refine lv_istore_n (lv' := [(1, .int 0), (0, .ref (G.1 + h))]) hx hb dX10_oneHour_88 rfl hl (by decide) rfl (fun ls hl => ?_)
        obtain ⟨n_, hw⟩ := hw
        exact L_89 n_ 0 M _ _ _ hw hP hS (lv_sub hl [1, 0] rfl)
      · have hw := hw.2 c_22
        refine lv_aload_n hx hb dX10_oneHour_76 rfl (lv_at hl 0 rfl) ?_
        refine lv_iload_n hx hb dX10_oneHour_77 rfl (lv_at hl 1 rfl) ?_
        refine mw_V (As := [.int v1]) (rest := []) (T := TX10) (N := 25) (n := 1) ⟨hx, hb, hml, hown, hts⟩ (so_X10_seeks l G h v1 M _ hw) wm_RX10_182 wi_yX10_seeks wv_yX10_seeks wn_RX10 wc_yX10_seeks (by decide) ⟨Nat.le_of_ble_eq_true rfl, Nat.le_of_ble_eq_true rfl⟩ ⟨rfl, rfl⟩ kh (by decide) (mk10 kh) rfl hSt hTb hP hS rfl hl.1 rfl (Nat.le_of_ble_eq_true rfl) dX10_oneHour_78 ⟨Nat.le_refl 0, Nat.le_refl 0⟩ (fun rr_ M_23 H locs hq hP hS => ?_)
        obtain ⟨rfl, hw⟩ := hq
        obtain ⟨x_24, ex_24⟩ : ∃ z : Int32, z = v1 + 1 := ⟨_, rfl⟩
        have hw := hw x_24 ex_24
        refine lv_iinc (v := x_24) (lv' := [(1, .int x_24), (0, .ref (G.1 + h))]) hx hb dX10_oneHour_81 hl (k := 1) rfl (by rw [ex_24]; rfl) (by decide) rfl (fun ls hl => ?_)
        refine lv_goto (tgt := 66) hx hb dX10_oneHour_84 (by decide) ?_
        exact ih66 x_24 M_23 _ _ _ hw hP hS (lv_sub hl [1, 0] rfl)
  have L_2 : ∀ (n2 : Nat) (v1 : Int32) (M : Mem) (H : Heap) (locs : List Loc) (ls : Array Slot), l_X10_oneHour_2 h Q n2 v1 M → va_P G.2.1 clsA (wl G M) H → va_S (inW G) s.heap H locs → lv_has ls 2 [(0, .ref (G.1 + h)), (1, .int v1)] → W p l e ({ frames := 5, cells := 0, slots := 0, locals := 123 } : Room) s m ([.ref (G.1 + h)] : List Value).toArray below meth c H locs 0 0 (MQ below (Pq G (Qv Q)) ([.ref (G.1 + h)] : List Value).toArray s 0 0 (inW G)) (F0 m 2 ls []) := by
    intro   n2
    induction n2 with
    | zero => intro v1 M H locs ls  hw hP hS hl; exact False.elim hw
    | succ n2 ih2 =>
      intro v1 M H locs ls  hw hP hS hl
      have hw : B_X10_oneHour_2 h Q (l_X10_oneHour_2 h Q n2) v1 M := hw
      unfold B_X10_oneHour_2 at hw
      refine lv_iload_n hx hb dX10_oneHour_2 rfl (lv_at hl 1 rfl) ?_
      refine lv_bipush (v := 10) hx hb dX10_oneHour_3 (by decide) ?_
      refine lv_icmp_ge (tgt := 64) hx hb dX10_oneHour_5 (by decide) (fun c_25 => ?_) (fun c_25 => ?_)
      · have hw := hw.1 c_25
        refine lv_iconst (v := 0) hx hb dX10_oneHour_64 (by decide) ?_
        refine lv_istore_n (lv' := [(1, .int 0), (0, .ref (G.1 + h))]) hx hb dX10_oneHour_65 rfl hl (by decide) rfl (fun ls hl => ?_)
        obtain ⟨n_, hw⟩ := hw
        exact L_66 n_ 0 M _ _ _ hw hP hS (lv_sub hl [1, 0] rfl)
      · have hw := hw.2 c_25
        refine lv_aload_n hx hb dX10_oneHour_8 rfl (lv_at hl 0 rfl) ?_
        refine mw_get (ci := 10) (v := .ref (G.1 + (h + 1))) (C := RX10) (T := TX10) (N := 25) hx hb ht inX10 hown hSt hP kh (by decide) (mk10 kh) rfl 0 (by decide) (ht _ wf_RX10_7) rfl rfl dX10_oneHour_9 ?_
        refine lv_bipush (v := 8) hx hb dX10_oneHour_12 (by decide) ?_
        refine lv_iload_n hx hb dX10_oneHour_14 rfl (lv_at hl 1 rfl) ?_
        refine lv_iadd hx hb dX10_oneHour_15 ?_
        refine lv_aload_n hx hb dX10_oneHour_16 rfl (lv_at hl 0 rfl) ?_
        refine mw_get (ci := 10) (v := .ref (G.1 + (h + 1))) (C := RX10) (T := TX10) (N := 25) hx hb ht inX10 hown hSt hP kh (by decide) (mk10 kh) rfl 0 (by decide) (ht _ wf_RX10_7) rfl rfl dX10_oneHour_17 ?_
        refine lv_bipush (v := 8) hx hb dX10_oneHour_20 (by decide) ?_
        refine lv_iload_n hx hb dX10_oneHour_22 rfl (lv_at hl 1 rfl) ?_
        refine lv_iadd hx hb dX10_oneHour_23 ?_
        obtain ⟨c_26, hw⟩ := hw
        refine mw_iald hx hb hSt hP (ks10_0 kh) (by rw [(ln10_0 kh)]; exact c_26) dX10_oneHour_24 ?_
        refine lv_aload_n hx hb dX10_oneHour_25 rfl (lv_at hl 0 rfl) ?_
        refine lv_iconst (v := 0) hx hb dX10_oneHour_26 (by decide) ?_
        refine lv_iload_n hx hb dX10_oneHour_27 rfl (lv_at hl 1 rfl) ?_
        refine lv_aload_n hx hb dX10_oneHour_28 rfl (lv_at hl 0 rfl) ?_
        refine mw_get (ci := 10) (v := .ref (G.1 + (h + 1))) (C := RX10) (T := TX10) (N := 25) hx hb ht inX10 hown hSt hP kh (by decide) (mk10 kh) rfl 0 (by decide) (ht _ wf_RX10_7) rfl rfl dX10_oneHour_29 ?_
        refine lv_bipush (v := 8) hx hb dX10_oneHour_32 (by decide) ?_
        refine lv_iload_n hx hb dX10_oneHour_34 rfl (lv_at hl 1 rfl) ?_
        refine lv_iadd hx hb dX10_oneHour_35 ?_
        obtain ⟨c_27, hw⟩ := hw
        refine mw_iald hx hb hSt hP (ks10_0 kh) (by rw [(ln10_0 kh)]; exact c_27) dX10_oneHour_36 ?_
        refine lv_aload_n hx hb dX10_oneHour_37 rfl (lv_at hl 0 rfl) ?_
        refine mw_get (ci := 10) (v := .ref (G.1 + (h + 1))) (C := RX10) (T := TX10) (N := 25) hx hb ht inX10 hown hSt hP kh (by decide) (mk10 kh) rfl 0 (by decide) (ht _ wf_RX10_7) rfl rfl dX10_oneHour_38 ?_
        refine lv_iconst (v := 0) hx hb dX10_oneHour_41 (by decide) ?_
        refine mw_ialdc hx hb hSt hP (ks10_0 kh) (ln10_0 kh) 0 (by decide) dX10_oneHour_42 ?_
        refine lv_bipush (v := 24) hx hb dX10_oneHour_43 (by decide) ?_
        refine lv_irem hx hb dX10_oneHour_45 (by decide) ?_
        refine mw_V (As := [.int 0, .int v1, .int (M (h + 1) (8 + v1).toNatClampNeg), .int (irm (M (h + 1) 0) 24)]) (rest := [.int (M (h + 1) (8 + v1).toNatClampNeg), .int (8 + v1), .ref (G.1 + (h + 1))]) (T := TX10) (N := 25) (n := 4) ⟨hx, hb, hml, hown, hts⟩ (so_X10_lawOf l G h 0 v1 (M (h + 1) (8 + v1).toNatClampNeg) (irm (M (h + 1) 0) 24) M _ hw) wm_RX10_168 wi_yX10_lawOf wv_yX10_lawOf wn_RX10 wc_yX10_lawOf (by decide) ⟨Nat.le_of_ble_eq_true rfl, Nat.le_of_ble_eq_true rfl⟩ ⟨rfl, rfl⟩ kh (by decide) (mk10 kh) rfl hSt hTb hP hS rfl hl.1 rfl (Nat.le_of_ble_eq_true rfl) dX10_oneHour_46 ⟨Nat.le_refl 0, Nat.le_refl 0⟩ (fun rr_ M_29 H locs hq hP hS => ?_)
        obtain ⟨r_30, rfl, hw⟩ := hq
        refine lv_iadd hx hb dX10_oneHour_49 ?_
        refine lv_iconst (v := 0) hx hb dX10_oneHour_50 (by decide) ?_
        refine lv_sipush (v := 999) hx hb dX10_oneHour_51 (by decide) ?_
        refine mw_Sx (As := [.int ((M (h + 1) (8 + v1).toNatClampNeg) + r_30), .int 0, .int 999]) (rest := [.int (8 + v1), .ref (G.1 + (h + 1))]) (n := 3) ⟨hx, hb, hml, hown, hts⟩ (so_X10_held l G ((M (h + 1) (8 + v1).toNatClampNeg) + r_30) 0 999 M_29 _ hw) wm_RX10_165 wt_yX10_held wn_RX10 wc_yX10_held (by decide) ⟨Nat.le_of_ble_eq_true rfl, Nat.le_of_ble_eq_true rfl⟩ ⟨rfl, rfl⟩ hSt hTb hP hS rfl hl.1 rfl (Nat.le_of_ble_eq_true rfl) dX10_oneHour_54 ⟨Nat.le_refl 0, Nat.le_refl 0⟩ (fun rr_ M_31 H locs hq hP hS => ?_)
        obtain ⟨r_32, rfl, hw⟩ := hq
        obtain ⟨c_33, hw⟩ := hw
        refine mw_iast hx hb hSt hP hS (ks10_0 kh) (by rw [(ln10_0 kh)]; exact c_33) dX10_oneHour_57 (fun M_34 H locs eM_34 hP hS => ?_)
        have hw := hw M_34 eM_34
        obtain ⟨x_35, ex_35⟩ : ∃ z : Int32, z = v1 + 1 := ⟨_, rfl⟩
        have hw := hw x_35 ex_35
        refine lv_iinc (v := x_35) (lv' := [(1, .int x_35), (0, .ref (G.1 + h))]) hx hb dX10_oneHour_58 hl (k := 1) rfl (by rw [ex_35]; rfl) (by decide) rfl (fun ls hl => ?_)
        refine lv_goto (tgt := 2) hx hb dX10_oneHour_61 (by decide) ?_
        exact ih2 x_35 M_34 _ _ _ hw hP hS (lv_sub hl [1, 0] rfl)
  refine lv_iconst (v := 0) hx hb dX10_oneHour_0 (by decide) ?_
  refine lv_istore_n (lv' := [(1, .int 0), (0, .ref (G.1 + h))]) hx hb dX10_oneHour_1 rfl hl (by decide) rfl (fun ls hl => ?_)
  obtain ⟨n_, hw⟩ := hw
  exact L_2 n_ 0 M _ _ _ hw hP hS (lv_sub hl [1, 0] rfl)
def B_X10_passes_2 (h : Nat) (Q : Mem → Prop) (v1 : Int32) (K2 : Int32 → Mem → Prop) (v2 : Int32) (M : Mem) : Prop :=
  (v1 ≤ v2 → Q M) ∧ (¬ v1 ≤ v2 → wp_X10_oneHour h M (fun M_2 => ∀ x_3 : Int32, x_3 = v2 + 1 → K2 x_3 M_2))
def l_X10_passes_2 (h : Nat) (Q : Mem → Prop) (v1 : Int32) : Nat → Int32 → Mem → Prop
  | 0 => fun _ _ => False
  | n + 1 => B_X10_passes_2 h Q v1 (l_X10_passes_2 h Q v1 n)
def wp_X10_passes (h : Nat) (a1 : Int32) (M : Mem) (Q : Mem → Prop) : Prop :=
  kdT h = 10 ∧ (∃ n, l_X10_passes_2 h Q a1 n 0 M)
set_option maxHeartbeats 4000000 in
set_option maxRecDepth 100000 in
theorem so_X10_passes (l : Launch) (G : Gm) (h : Nat) (a1 : Int32) (M : Mem) (Q : Mem → Prop) (hw : wp_X10_passes h a1 M Q) : Ct l G yX10_passes cX10_passes 3 none ({ frames := 6, cells := 0, slots := 0, locals := 144 } : Room) [.ref (G.1 + h), .int a1] M (Qv Q) := by
  unfold wp_X10_passes at hw
  obtain ⟨kh, hw⟩ := hw
  refine ct_of (by decide) (Nat.le_of_ble_eq_true rfl) ?_
  intro p e s m below meth c E_ ls H hl hP hS
  obtain ⟨hx, hb, hml, hown, hts, ht, hr, hlocks, hSt, hTb⟩ := E_
  have hl : lv_has ls 3 [(0, .ref (G.1 + h)), (1, .int a1)] := hl
  have L_2 : ∀ (v1 : Int32), ∀ (n2 : Nat) (v2 : Int32) (M : Mem) (H : Heap) (locs : List Loc) (ls : Array Slot), l_X10_passes_2 h Q v1 n2 v2 M → va_P G.2.1 clsA (wl G M) H → va_S (inW G) s.heap H locs → lv_has ls 3 [(0, .ref (G.1 + h)), (1, .int v1), (2, .int v2)] → W p l e ({ frames := 6, cells := 0, slots := 0, locals := 144 } : Room) s m ([.ref (G.1 + h), .int a1] : List Value).toArray below meth c H locs 0 0 (MQ below (Pq G (Qv Q)) ([.ref (G.1 + h), .int a1] : List Value).toArray s 0 0 (inW G)) (F0 m 2 ls []) := by
    intro v1  n2
    induction n2 with
    | zero => intro v2 M H locs ls  hw hP hS hl; exact False.elim hw
    | succ n2 ih2 =>
      intro v2 M H locs ls  hw hP hS hl
      have hw : B_X10_passes_2 h Q v1 (l_X10_passes_2 h Q v1 n2) v2 M := hw
      unfold B_X10_passes_2 at hw
      refine lv_iload_n hx hb dX10_passes_2 rfl (lv_at hl 2 rfl) ?_
      refine lv_iload_n hx hb dX10_passes_3 rfl (lv_at hl 1 rfl) ?_
      refine lv_icmp_ge (tgt := 17) hx hb dX10_passes_4 (by decide) (fun c_1 => ?_) (fun c_1 => ?_)
      · have hw := hw.1 c_1
        exact W.vret hx hb hr (mw_end hP hSt hTb hS ⟨rfl, hw⟩) hS.2.2 dX10_passes_17
      · have hw := hw.2 c_1
        refine lv_aload_n hx hb dX10_passes_7 rfl (lv_at hl 0 rfl) ?_
        refine mw_V (As := []) (rest := []) (T := TX10) (N := 25) (n := 0) ⟨hx, hb, hml, hown, hts⟩ (so_X10_oneHour l G h M _ hw) wm_RX10_185 wi_yX10_oneHour wv_yX10_oneHour wn_RX10 wc_yX10_oneHour (by decide) ⟨Nat.le_of_ble_eq_true rfl, Nat.le_of_ble_eq_true rfl⟩ ⟨rfl, rfl⟩ kh (by decide) (mk10 kh) rfl hSt hTb hP hS rfl hl.1 rfl (Nat.le_of_ble_eq_true rfl) dX10_passes_8 ⟨Nat.le_refl 0, Nat.le_refl 0⟩ (fun rr_ M_2 H locs hq hP hS => ?_)
        obtain ⟨rfl, hw⟩ := hq
        obtain ⟨x_3, ex_3⟩ : ∃ z : Int32, z = v2 + 1 := ⟨_, rfl⟩
        have hw := hw x_3 ex_3
        refine lv_iinc (v := x_3) (lv' := [(2, .int x_3), (0, .ref (G.1 + h)), (1, .int v1)]) hx hb dX10_passes_11 hl (k := 2) rfl (by rw [ex_3]; rfl) (by decide) rfl (fun ls hl => ?_)
        refine lv_goto (tgt := 2) hx hb dX10_passes_14 (by decide) ?_
        exact ih2 x_3 M_2 _ _ _ hw hP hS (lv_sub hl [1, 2, 0] rfl)
  refine lv_iconst (v := 0) hx hb dX10_passes_0 (by decide) ?_
  refine lv_istore_n (lv' := [(2, .int 0), (0, .ref (G.1 + h)), (1, .int a1)]) hx hb dX10_passes_1 rfl hl (by decide) rfl (fun ls hl => ?_)
  obtain ⟨n_, hw⟩ := hw
  exact L_2 a1 n_ 0 M _ _ _ hw hP hS (lv_sub hl [1, 2, 0] rfl)
def wp_X10_hours (h : Nat) (a1 : Int32) (M : Mem) (Q : Int32 → Mem → Prop) : Prop :=
  kdT h = 10 ∧ (wp_X10_in a1 1 60 M (fun r_2 M_1 => (¬ r_2 = 0 → (((M_1 (h + 1) 0) + a1) ≤ 9999 → wp_X10_passes h a1 M_1 (fun M_6 => wp_X10_foundSet h M_6 (fun r_8 M_7 => Q r_8 M_7))) ∧ (¬ ((M_1 (h + 1) 0) + a1) ≤ 9999 → wp_X10_errs h (-1000000003) M_1 (fun r_10 M_9 => Q r_10 M_9))) ∧ (r_2 = 0 → wp_X10_errs h (-1000000001) M_1 (fun r_12 M_11 => Q r_12 M_11))))
set_option maxHeartbeats 4000000 in
set_option maxRecDepth 100000 in
theorem so_X10_hours (l : Launch) (G : Gm) (h : Nat) (a1 : Int32) (M : Mem) (Q : Int32 → Mem → Prop) (hw : wp_X10_hours h a1 M Q) : Ct l G yX10_hours cX10_hours 2 (some .int) ({ frames := 7, cells := 0, slots := 0, locals := 166 } : Room) [.ref (G.1 + h), .int a1] M (Qi Q) := by
  unfold wp_X10_hours at hw
  obtain ⟨kh, hw⟩ := hw
  refine ct_of (by decide) (Nat.le_of_ble_eq_true rfl) ?_
  intro p e s m below meth c E_ ls H hl hP hS
  obtain ⟨hx, hb, hml, hown, hts, ht, hr, hlocks, hSt, hTb⟩ := E_
  have hl : lv_has ls 2 [(0, .ref (G.1 + h)), (1, .int a1)] := hl
  refine lv_iload_n hx hb dX10_hours_0 rfl (lv_at hl 1 rfl) ?_
  refine lv_iconst (v := 1) hx hb dX10_hours_1 (by decide) ?_
  refine lv_bipush (v := 60) hx hb dX10_hours_2 (by decide) ?_
  refine mw_Sx (As := [.int a1, .int 1, .int 60]) (rest := []) (n := 3) ⟨hx, hb, hml, hown, hts⟩ (so_X10_in l G a1 1 60 M _ hw) wm_RX10_50 wt_yX10_in wn_RX10 wc_yX10_in (by decide) ⟨Nat.le_of_ble_eq_true rfl, Nat.le_of_ble_eq_true rfl⟩ ⟨rfl, rfl⟩ hSt hTb hP hS rfl hl.1 rfl (Nat.le_of_ble_eq_true rfl) dX10_hours_4 ⟨Nat.le_refl 0, Nat.le_refl 0⟩ (fun rr_ M_1 H locs hq hP hS => ?_)
  obtain ⟨r_2, rfl, hw⟩ := hq
  refine lv_if_ne (tgt := 17) hx hb dX10_hours_7 (by decide) (fun c_3 => ?_) (fun c_3 => ?_)
  · have hw := hw.1 c_3
    refine lv_aload_n hx hb dX10_hours_17 rfl (lv_at hl 0 rfl) ?_
    refine mw_get (ci := 10) (v := .ref (G.1 + (h + 1))) (C := RX10) (T := TX10) (N := 25) hx hb ht inX10 hown hSt hP kh (by decide) (mk10 kh) rfl 0 (by decide) (ht _ wf_RX10_7) rfl rfl dX10_hours_18 ?_
    refine lv_iconst (v := 0) hx hb dX10_hours_21 (by decide) ?_
    refine mw_ialdc hx hb hSt hP (ks10_0 kh) (ln10_0 kh) 0 (by decide) dX10_hours_22 ?_
    refine lv_iload_n hx hb dX10_hours_23 rfl (lv_at hl 1 rfl) ?_
    refine lv_iadd hx hb dX10_hours_24 ?_
    refine lv_sipush (v := 9999) hx hb dX10_hours_25 (by decide) ?_
    refine lv_icmp_le (tgt := 38) hx hb dX10_hours_28 (by decide) (fun c_5 => ?_) (fun c_5 => ?_)
    · have hw := hw.1 c_5
      refine lv_aload_n hx hb dX10_hours_38 rfl (lv_at hl 0 rfl) ?_
      refine lv_iload_n hx hb dX10_hours_39 rfl (lv_at hl 1 rfl) ?_
      refine mw_V (As := [.int a1]) (rest := []) (T := TX10) (N := 25) (n := 1) ⟨hx, hb, hml, hown, hts⟩ (so_X10_passes l G h a1 M_1 _ hw) wm_RX10_192 wi_yX10_passes wv_yX10_passes wn_RX10 wc_yX10_passes (by decide) ⟨Nat.le_of_ble_eq_true rfl, Nat.le_of_ble_eq_true rfl⟩ ⟨rfl, rfl⟩ kh (by decide) (mk10 kh) rfl hSt hTb hP hS rfl hl.1 rfl (Nat.le_of_ble_eq_true rfl) dX10_hours_40 ⟨Nat.le_refl 0, Nat.le_refl 0⟩ (fun rr_ M_6 H locs hq hP hS => ?_)
      obtain ⟨rfl, hw⟩ := hq
      refine lv_aload_n hx hb dX10_hours_43 rfl (lv_at hl 0 rfl) ?_
      refine mw_V (As := []) (rest := []) (T := TX10) (N := 25) (n := 0) ⟨hx, hb, hml, hown, hts⟩ (so_X10_foundSet l G h M_6 _ hw) wm_RX10_195 wi_yX10_foundSet wv_yX10_foundSet wn_RX10 wc_yX10_foundSet (by decide) ⟨Nat.le_of_ble_eq_true rfl, Nat.le_of_ble_eq_true rfl⟩ ⟨rfl, rfl⟩ kh (by decide) (mk10 kh) rfl hSt hTb hP hS rfl hl.1 rfl (Nat.le_of_ble_eq_true rfl) dX10_hours_44 ⟨Nat.le_refl 0, Nat.le_refl 0⟩ (fun rr_ M_7 H locs hq hP hS => ?_)
      obtain ⟨r_8, rfl, hw⟩ := hq
      exact W.iret hx hb hr (mw_end hP hSt hTb hS ⟨_, rfl, hw⟩) hS.2.2 dX10_hours_47
    · have hw := hw.2 c_5
      refine lv_aload_n hx hb dX10_hours_31 rfl (lv_at hl 0 rfl) ?_
      refine lv_ldc (v := (-1000000003)) hx hb hown (ht _ wk_RX10_199) dX10_hours_32 ?_
      refine mw_V (As := [.int (-1000000003)]) (rest := []) (T := TX10) (N := 25) (n := 1) ⟨hx, hb, hml, hown, hts⟩ (so_X10_errs l G h (-1000000003) M_1 _ hw) wm_RX10_63 wi_yX10_errs wv_yX10_errs wn_RX10 wc_yX10_errs (by decide) ⟨Nat.le_of_ble_eq_true rfl, Nat.le_of_ble_eq_true rfl⟩ ⟨rfl, rfl⟩ kh (by decide) (mk10 kh) rfl hSt hTb hP hS rfl hl.1 rfl (Nat.le_of_ble_eq_true rfl) dX10_hours_34 ⟨Nat.le_refl 0, Nat.le_refl 0⟩ (fun rr_ M_9 H locs hq hP hS => ?_)
      obtain ⟨r_10, rfl, hw⟩ := hq
      exact W.iret hx hb hr (mw_end hP hSt hTb hS ⟨_, rfl, hw⟩) hS.2.2 dX10_hours_37
  · have hw := hw.2 c_3
    refine lv_aload_n hx hb dX10_hours_10 rfl (lv_at hl 0 rfl) ?_
    refine lv_ldc (v := (-1000000001)) hx hb hown (ht _ wk_RX10_62) dX10_hours_11 ?_
    refine mw_V (As := [.int (-1000000001)]) (rest := []) (T := TX10) (N := 25) (n := 1) ⟨hx, hb, hml, hown, hts⟩ (so_X10_errs l G h (-1000000001) M_1 _ hw) wm_RX10_63 wi_yX10_errs wv_yX10_errs wn_RX10 wc_yX10_errs (by decide) ⟨Nat.le_of_ble_eq_true rfl, Nat.le_of_ble_eq_true rfl⟩ ⟨rfl, rfl⟩ kh (by decide) (mk10 kh) rfl hSt hTb hP hS rfl hl.1 rfl (Nat.le_of_ble_eq_true rfl) dX10_hours_13 ⟨Nat.le_refl 0, Nat.le_refl 0⟩ (fun rr_ M_11 H locs hq hP hS => ?_)
    obtain ⟨r_12, rfl, hw⟩ := hq
    exact W.iret hx hb hr (mw_end hP hSt hTb hS ⟨_, rfl, hw⟩) hS.2.2 dX10_hours_16
def wp_X10_drawn (h : Nat) (M : Mem) (Q : Int32 → Mem → Prop) : Prop :=
  kdT h = 10 ∧ (∀ M_3, M_3 = mu M (h + 1) 1 (((M (h + 1) 1) * 1103515245) + 12345) → Q (ius (M_3 (h + 1) 1) 8) M_3)
set_option maxHeartbeats 4000000 in
set_option maxRecDepth 100000 in
theorem so_X10_drawn (l : Launch) (G : Gm) (h : Nat) (M : Mem) (Q : Int32 → Mem → Prop) (hw : wp_X10_drawn h M Q) : Ct l G yX10_drawn cX10_drawn 1 (some .int) ({ frames := 0, cells := 0, slots := 0, locals := 0 } : Room) [.ref (G.1 + h)] M (Qi Q) := by
  unfold wp_X10_drawn at hw
  obtain ⟨kh, hw⟩ := hw
  refine ct_of (by decide) (Nat.le_of_ble_eq_true rfl) ?_
  intro p e s m below meth c E_ ls H hl hP hS
  obtain ⟨hx, hb, hml, hown, hts, ht, hr, hlocks, hSt, hTb⟩ := E_
  have hl : lv_has ls 1 [(0, .ref (G.1 + h))] := hl
  refine lv_aload_n hx hb dX10_drawn_0 rfl (lv_at hl 0 rfl) ?_
  refine mw_get (ci := 10) (v := .ref (G.1 + (h + 1))) (C := RX10) (T := TX10) (N := 25) hx hb ht inX10 hown hSt hP kh (by decide) (mk10 kh) rfl 0 (by decide) (ht _ wf_RX10_7) rfl rfl dX10_drawn_1 ?_
  refine lv_iconst (v := 1) hx hb dX10_drawn_4 (by decide) ?_
  refine lv_aload_n hx hb dX10_drawn_5 rfl (lv_at hl 0 rfl) ?_
  refine mw_get (ci := 10) (v := .ref (G.1 + (h + 1))) (C := RX10) (T := TX10) (N := 25) hx hb ht inX10 hown hSt hP kh (by decide) (mk10 kh) rfl 0 (by decide) (ht _ wf_RX10_7) rfl rfl dX10_drawn_6 ?_
  refine lv_iconst (v := 1) hx hb dX10_drawn_9 (by decide) ?_
  refine mw_ialdc hx hb hSt hP (ks10_0 kh) (ln10_0 kh) 1 (by decide) dX10_drawn_10 ?_
  refine lv_ldc (v := 1103515245) hx hb hown (ht _ wk_RX10_200) dX10_drawn_11 ?_
  refine lv_imul hx hb dX10_drawn_13 ?_
  refine lv_sipush (v := 12345) hx hb dX10_drawn_14 (by decide) ?_
  refine lv_iadd hx hb dX10_drawn_17 ?_
  refine mw_iastc hx hb hSt hP hS (ks10_0 kh) (ln10_0 kh) 1 (by decide) dX10_drawn_18 (fun M_3 H locs eM_3 hP hS => ?_)
  have hw := hw M_3 eM_3
  refine lv_aload_n hx hb dX10_drawn_19 rfl (lv_at hl 0 rfl) ?_
  refine mw_get (ci := 10) (v := .ref (G.1 + (h + 1))) (C := RX10) (T := TX10) (N := 25) hx hb ht inX10 hown hSt hP kh (by decide) (mk10 kh) rfl 0 (by decide) (ht _ wf_RX10_7) rfl rfl dX10_drawn_20 ?_
  refine lv_iconst (v := 1) hx hb dX10_drawn_23 (by decide) ?_
  refine mw_ialdc hx hb hSt hP (ks10_0 kh) (ln10_0 kh) 1 (by decide) dX10_drawn_24 ?_
  refine lv_bipush (v := 8) hx hb dX10_drawn_25 (by decide) ?_
  refine lv_iushr (v := ius (M_3 (h + 1) 1) 8) hx hb dX10_drawn_27 rfl ?_
  exact W.iret hx hb hr (mw_end hP hSt hTb hS ⟨_, rfl, hw⟩) hS.2.2 dX10_drawn_28
def B_X10_loose_40 (h : Nat) (Q : Int32 → Mem → Prop) (v1 : Int32) (K40 : Int32 → Mem → Prop) (v2 : Int32) (M : Mem) : Prop :=
  (v1 ≤ v2 → wp_X10_foundSet h M (fun r_3 M_2 => Q r_3 M_2)) ∧ (¬ v1 ≤ v2 → wp_X10_drawn h M (fun r_5 M_4 => ∀ x_6, x_6 = 8 + (irm r_5 10) → vp_in x_6 242 ∧ (wp_X10_held ((M_4 (h + 1) x_6.toNatClampNeg) + (irm (r_5 / 8) 30)) 0 999 M_4 (fun r_9 M_8 => vp_in x_6 242 ∧ ∀ M_11, M_11 = mu M_8 (h + 1) x_6.toNatClampNeg r_9 → wp_X10_oneHour h M_11 (fun M_12 => ∀ x_13 : Int32, x_13 = v2 + 1 → K40 x_13 M_12)))))
def l_X10_loose_40 (h : Nat) (Q : Int32 → Mem → Prop) (v1 : Int32) : Nat → Int32 → Mem → Prop
  | 0 => fun _ _ => False
  | n + 1 => B_X10_loose_40 h Q v1 (l_X10_loose_40 h Q v1 n)
def wp_X10_loose (h : Nat) (a1 : Int32) (M : Mem) (Q : Int32 → Mem → Prop) : Prop :=
  kdT h = 10 ∧ (wp_X10_in a1 1 40 M (fun r_15 M_14 => (¬ r_15 = 0 → (((M_14 (h + 1) 0) + a1) ≤ 9999 → ∃ n, l_X10_loose_40 h Q a1 n 0 M_14) ∧ (¬ ((M_14 (h + 1) 0) + a1) ≤ 9999 → wp_X10_errs h (-1000000003) M_14 (fun r_20 M_19 => Q r_20 M_19))) ∧ (r_15 = 0 → wp_X10_errs h (-1000000001) M_14 (fun r_22 M_21 => Q r_22 M_21))))
set_option maxHeartbeats 4000000 in
set_option maxRecDepth 100000 in
theorem so_X10_loose (l : Launch) (G : Gm) (h : Nat) (a1 : Int32) (M : Mem) (Q : Int32 → Mem → Prop) (hw : wp_X10_loose h a1 M Q) : Ct l G yX10_loose cX10_loose 5 (some .int) ({ frames := 6, cells := 0, slots := 0, locals := 144 } : Room) [.ref (G.1 + h), .int a1] M (Qi Q) := by
  unfold wp_X10_loose at hw
  obtain ⟨kh, hw⟩ := hw
  refine ct_of (by decide) (Nat.le_of_ble_eq_true rfl) ?_
  intro p e s m below meth c E_ ls H hl hP hS
  obtain ⟨hx, hb, hml, hown, hts, ht, hr, hlocks, hSt, hTb⟩ := E_
  have hl : lv_has ls 5 [(0, .ref (G.1 + h)), (1, .int a1)] := hl
  have L_40 : ∀ (v1 : Int32), ∀ (n40 : Nat) (v2 : Int32) (M : Mem) (H : Heap) (locs : List Loc) (ls : Array Slot), l_X10_loose_40 h Q v1 n40 v2 M → va_P G.2.1 clsA (wl G M) H → va_S (inW G) s.heap H locs → lv_has ls 5 [(0, .ref (G.1 + h)), (1, .int v1), (2, .int v2)] → W p l e ({ frames := 6, cells := 0, slots := 0, locals := 144 } : Room) s m ([.ref (G.1 + h), .int a1] : List Value).toArray below meth c H locs 0 0 (MQ below (Pq G (Qi Q)) ([.ref (G.1 + h), .int a1] : List Value).toArray s 0 0 (inW G)) (F0 m 40 ls []) := by
    intro v1  n40
    induction n40 with
    | zero => intro v2 M H locs ls  hw hP hS hl; exact False.elim hw
    | succ n40 ih40 =>
      intro v2 M H locs ls  hw hP hS hl
      have hw : B_X10_loose_40 h Q v1 (l_X10_loose_40 h Q v1 n40) v2 M := hw
      unfold B_X10_loose_40 at hw
      refine lv_iload_n hx hb dX10_loose_40 rfl (lv_at hl 2 rfl) ?_
      refine lv_iload_n hx hb dX10_loose_41 rfl (lv_at hl 1 rfl) ?_
      refine lv_icmp_ge (tgt := 98) hx hb dX10_loose_42 (by decide) (fun c_1 => ?_) (fun c_1 => ?_)
      · have hw := hw.1 c_1
        refine lv_aload_n hx hb dX10_loose_98 rfl (lv_at hl 0 rfl) ?_
        refine mw_V (As := []) (rest := []) (T := TX10) (N := 25) (n := 0) ⟨hx, hb, hml, hown, hts⟩ (so_X10_foundSet l G h M _ hw) wm_RX10_195 wi_yX10_foundSet wv_yX10_foundSet wn_RX10 wc_yX10_foundSet (by decide) ⟨Nat.le_of_ble_eq_true rfl, Nat.le_of_ble_eq_true rfl⟩ ⟨rfl, rfl⟩ kh (by decide) (mk10 kh) rfl hSt hTb hP hS rfl hl.1 rfl (Nat.le_of_ble_eq_true rfl) dX10_loose_99 ⟨Nat.le_refl 0, Nat.le_refl 0⟩ (fun rr_ M_2 H locs hq hP hS => ?_)
        obtain ⟨r_3, rfl, hw⟩ := hq
        exact W.iret hx hb hr (mw_end hP hSt hTb hS ⟨_, rfl, hw⟩) hS.2.2 dX10_loose_102
      · have hw := hw.2 c_1
        refine lv_aload_n hx hb dX10_loose_45 rfl (lv_at hl 0 rfl) ?_
        refine mw_V (As := []) (rest := []) (T := TX10) (N := 25) (n := 0) ⟨hx, hb, hml, hown, hts⟩ (so_X10_drawn l G h M _ hw) wm_RX10_201 wi_yX10_drawn wv_yX10_drawn wn_RX10 wc_yX10_drawn (by decide) ⟨Nat.le_of_ble_eq_true rfl, Nat.le_of_ble_eq_true rfl⟩ ⟨rfl, rfl⟩ kh (by decide) (mk10 kh) rfl hSt hTb hP hS rfl hl.1 rfl (Nat.le_of_ble_eq_true rfl) dX10_loose_46 ⟨Nat.le_refl 0, Nat.le_refl 0⟩ (fun rr_ M_4 H locs hq hP hS => ?_)
        obtain ⟨r_5, rfl, hw⟩ := hq
        refine lv_istore_n (lv' := [(3, .int r_5), (0, .ref (G.1 + h)), (1, .int v1), (2, .int v2)]) hx hb dX10_loose_49 rfl hl (by decide) rfl (fun ls hl => ?_)
        refine lv_bipush (v := 8) hx hb dX10_loose_50 (by decide) ?_
        refine lv_iload_n hx hb dX10_loose_52 rfl (lv_at hl 0 rfl) ?_
        refine lv_bipush (v := 10) hx hb dX10_loose_53 (by decide) ?_
        refine lv_irem hx hb dX10_loose_55 (by decide) ?_
        refine lv_iadd hx hb dX10_loose_56 ?_
        refine lv_topi (fun x_6 ex_6 => ?_)
        have hw := hw x_6 ex_6
        refine lv_istore (lv' := [(4, .int x_6), (3, .int r_5), (0, .ref (G.1 + h)), (1, .int v1), (2, .int v2)]) hx hb dX10_loose_57 hl (by decide) rfl (fun ls hl => ?_)
        refine lv_aload_n hx hb dX10_loose_59 rfl (lv_at hl 2 rfl) ?_
        refine mw_get (ci := 10) (v := .ref (G.1 + (h + 1))) (C := RX10) (T := TX10) (N := 25) hx hb ht inX10 hown hSt hP kh (by decide) (mk10 kh) rfl 0 (by decide) (ht _ wf_RX10_7) rfl rfl dX10_loose_60 ?_
        refine lv_iload hx hb dX10_loose_63 (lv_at hl 0 rfl) ?_
        refine lv_aload_n hx hb dX10_loose_65 rfl (lv_at hl 2 rfl) ?_
        refine mw_get (ci := 10) (v := .ref (G.1 + (h + 1))) (C := RX10) (T := TX10) (N := 25) hx hb ht inX10 hown hSt hP kh (by decide) (mk10 kh) rfl 0 (by decide) (ht _ wf_RX10_7) rfl rfl dX10_loose_66 ?_
        refine lv_iload hx hb dX10_loose_69 (lv_at hl 0 rfl) ?_
        obtain ⟨c_7, hw⟩ := hw
        refine mw_iald hx hb hSt hP (ks10_0 kh) (by rw [(ln10_0 kh)]; exact c_7) dX10_loose_71 ?_
        refine lv_iload_n hx hb dX10_loose_72 rfl (lv_at hl 1 rfl) ?_
        refine lv_bipush (v := 8) hx hb dX10_loose_73 (by decide) ?_
        refine lv_idiv hx hb dX10_loose_75 (by decide) ?_
        refine lv_bipush (v := 30) hx hb dX10_loose_76 (by decide) ?_
        refine lv_irem hx hb dX10_loose_78 (by decide) ?_
        refine lv_iadd hx hb dX10_loose_79 ?_
        refine lv_iconst (v := 0) hx hb dX10_loose_80 (by decide) ?_
        refine lv_sipush (v := 999) hx hb dX10_loose_81 (by decide) ?_
        refine mw_Sx (As := [.int ((M_4 (h + 1) x_6.toNatClampNeg) + (irm (r_5 / 8) 30)), .int 0, .int 999]) (rest := [.int x_6, .ref (G.1 + (h + 1))]) (n := 3) ⟨hx, hb, hml, hown, hts⟩ (so_X10_held l G ((M_4 (h + 1) x_6.toNatClampNeg) + (irm (r_5 / 8) 30)) 0 999 M_4 _ hw) wm_RX10_165 wt_yX10_held wn_RX10 wc_yX10_held (by decide) ⟨Nat.le_of_ble_eq_true rfl, Nat.le_of_ble_eq_true rfl⟩ ⟨rfl, rfl⟩ hSt hTb hP hS rfl hl.1 rfl (Nat.le_of_ble_eq_true rfl) dX10_loose_84 ⟨Nat.le_refl 0, Nat.le_refl 0⟩ (fun rr_ M_8 H locs hq hP hS => ?_)
        obtain ⟨r_9, rfl, hw⟩ := hq
        obtain ⟨c_10, hw⟩ := hw
        refine mw_iast hx hb hSt hP hS (ks10_0 kh) (by rw [(ln10_0 kh)]; exact c_10) dX10_loose_87 (fun M_11 H locs eM_11 hP hS => ?_)
        have hw := hw M_11 eM_11
        refine lv_aload_n hx hb dX10_loose_88 rfl (lv_at hl 2 rfl) ?_
        refine mw_V (As := []) (rest := []) (T := TX10) (N := 25) (n := 0) ⟨hx, hb, hml, hown, hts⟩ (so_X10_oneHour l G h M_11 _ hw) wm_RX10_185 wi_yX10_oneHour wv_yX10_oneHour wn_RX10 wc_yX10_oneHour (by decide) ⟨Nat.le_of_ble_eq_true rfl, Nat.le_of_ble_eq_true rfl⟩ ⟨rfl, rfl⟩ kh (by decide) (mk10 kh) rfl hSt hTb hP hS rfl hl.1 rfl (Nat.le_of_ble_eq_true rfl) dX10_loose_89 ⟨Nat.le_refl 0, Nat.le_refl 0⟩ (fun rr_ M_12 H locs hq hP hS => ?_)
        obtain ⟨rfl, hw⟩ := hq
        obtain ⟨x_13, ex_13⟩ : ∃ z : Int32, z = v2 + 1 := ⟨_, rfl⟩
        have hw := hw x_13 ex_13
        refine lv_iinc (v := x_13) (lv' := [(2, .int x_13), (4, .int x_6), (3, .int r_5), (0, .ref (G.1 + h)), (1, .int v1)]) hx hb dX10_loose_92 hl (k := 4) rfl (by rw [ex_13]; rfl) (by decide) rfl (fun ls hl => ?_)
        refine lv_goto (tgt := 40) hx hb dX10_loose_95 (by decide) ?_
        exact ih40 x_13 M_12 _ _ _ hw hP hS (lv_sub hl [3, 4, 0] rfl)
  refine lv_iload_n hx hb dX10_loose_0 rfl (lv_at hl 1 rfl) ?_
  refine lv_iconst (v := 1) hx hb dX10_loose_1 (by decide) ?_
  refine lv_bipush (v := 40) hx hb dX10_loose_2 (by decide) ?_
  refine mw_Sx (As := [.int a1, .int 1, .int 40]) (rest := []) (n := 3) ⟨hx, hb, hml, hown, hts⟩ (so_X10_in l G a1 1 40 M _ hw) wm_RX10_50 wt_yX10_in wn_RX10 wc_yX10_in (by decide) ⟨Nat.le_of_ble_eq_true rfl, Nat.le_of_ble_eq_true rfl⟩ ⟨rfl, rfl⟩ hSt hTb hP hS rfl hl.1 rfl (Nat.le_of_ble_eq_true rfl) dX10_loose_4 ⟨Nat.le_refl 0, Nat.le_refl 0⟩ (fun rr_ M_14 H locs hq hP hS => ?_)
  obtain ⟨r_15, rfl, hw⟩ := hq
  refine lv_if_ne (tgt := 17) hx hb dX10_loose_7 (by decide) (fun c_16 => ?_) (fun c_16 => ?_)
  · have hw := hw.1 c_16
    refine lv_aload_n hx hb dX10_loose_17 rfl (lv_at hl 0 rfl) ?_
    refine mw_get (ci := 10) (v := .ref (G.1 + (h + 1))) (C := RX10) (T := TX10) (N := 25) hx hb ht inX10 hown hSt hP kh (by decide) (mk10 kh) rfl 0 (by decide) (ht _ wf_RX10_7) rfl rfl dX10_loose_18 ?_
    refine lv_iconst (v := 0) hx hb dX10_loose_21 (by decide) ?_
    refine mw_ialdc hx hb hSt hP (ks10_0 kh) (ln10_0 kh) 0 (by decide) dX10_loose_22 ?_
    refine lv_iload_n hx hb dX10_loose_23 rfl (lv_at hl 1 rfl) ?_
    refine lv_iadd hx hb dX10_loose_24 ?_
    refine lv_sipush (v := 9999) hx hb dX10_loose_25 (by decide) ?_
    refine lv_icmp_le (tgt := 38) hx hb dX10_loose_28 (by decide) (fun c_18 => ?_) (fun c_18 => ?_)
    · have hw := hw.1 c_18
      refine lv_iconst (v := 0) hx hb dX10_loose_38 (by decide) ?_
      refine lv_istore_n (lv' := [(2, .int 0), (0, .ref (G.1 + h)), (1, .int a1)]) hx hb dX10_loose_39 rfl hl (by decide) rfl (fun ls hl => ?_)
      obtain ⟨n_, hw⟩ := hw
      exact L_40 a1 n_ 0 M_14 _ _ _ hw hP hS (lv_sub hl [1, 2, 0] rfl)
    · have hw := hw.2 c_18
      refine lv_aload_n hx hb dX10_loose_31 rfl (lv_at hl 0 rfl) ?_
      refine lv_ldc (v := (-1000000003)) hx hb hown (ht _ wk_RX10_199) dX10_loose_32 ?_
      refine mw_V (As := [.int (-1000000003)]) (rest := []) (T := TX10) (N := 25) (n := 1) ⟨hx, hb, hml, hown, hts⟩ (so_X10_errs l G h (-1000000003) M_14 _ hw) wm_RX10_63 wi_yX10_errs wv_yX10_errs wn_RX10 wc_yX10_errs (by decide) ⟨Nat.le_of_ble_eq_true rfl, Nat.le_of_ble_eq_true rfl⟩ ⟨rfl, rfl⟩ kh (by decide) (mk10 kh) rfl hSt hTb hP hS rfl hl.1 rfl (Nat.le_of_ble_eq_true rfl) dX10_loose_34 ⟨Nat.le_refl 0, Nat.le_refl 0⟩ (fun rr_ M_19 H locs hq hP hS => ?_)
      obtain ⟨r_20, rfl, hw⟩ := hq
      exact W.iret hx hb hr (mw_end hP hSt hTb hS ⟨_, rfl, hw⟩) hS.2.2 dX10_loose_37
  · have hw := hw.2 c_16
    refine lv_aload_n hx hb dX10_loose_10 rfl (lv_at hl 0 rfl) ?_
    refine lv_ldc (v := (-1000000001)) hx hb hown (ht _ wk_RX10_62) dX10_loose_11 ?_
    refine mw_V (As := [.int (-1000000001)]) (rest := []) (T := TX10) (N := 25) (n := 1) ⟨hx, hb, hml, hown, hts⟩ (so_X10_errs l G h (-1000000001) M_14 _ hw) wm_RX10_63 wi_yX10_errs wv_yX10_errs wn_RX10 wc_yX10_errs (by decide) ⟨Nat.le_of_ble_eq_true rfl, Nat.le_of_ble_eq_true rfl⟩ ⟨rfl, rfl⟩ kh (by decide) (mk10 kh) rfl hSt hTb hP hS rfl hl.1 rfl (Nat.le_of_ble_eq_true rfl) dX10_loose_13 ⟨Nat.le_refl 0, Nat.le_refl 0⟩ (fun rr_ M_21 H locs hq hP hS => ?_)
    obtain ⟨r_22, rfl, hw⟩ := hq
    exact W.iret hx hb hr (mw_end hP hSt hTb hS ⟨_, rfl, hw⟩) hS.2.2 dX10_loose_16
def B_X10_moveAll_2 (h : Nat) (Q : Mem → Prop) (r1 : Nat) (r2 : Nat) (K2 : Int32 → Mem → Prop) (v3 : Int32) (M : Mem) : Prop :=
  (242 ≤ v3 → Q M) ∧ (¬ 242 ≤ v3 → vp_in v3 (lnT r1) ∧ (vp_in v3 (lnT r2) ∧ ∀ M_4, M_4 = mu M r2 v3.toNatClampNeg (M r1 v3.toNatClampNeg) → ∀ x_5 : Int32, x_5 = v3 + 1 → K2 x_5 M_4))
def l_X10_moveAll_2 (h : Nat) (Q : Mem → Prop) (r1 : Nat) (r2 : Nat) : Nat → Int32 → Mem → Prop
  | 0 => fun _ _ => False
  | n + 1 => B_X10_moveAll_2 h Q r1 r2 (l_X10_moveAll_2 h Q r1 r2 n)
def wp_X10_moveAll (h : Nat) (a1 : Nat) (a2 : Nat) (M : Mem) (Q : Mem → Prop) : Prop :=
  kdT h = 10 ∧ kdT a1 = 11 ∧ kdT a2 = 11 ∧ (∃ n, l_X10_moveAll_2 h Q a1 a2 n 0 M)
set_option maxHeartbeats 4000000 in
set_option maxRecDepth 100000 in
theorem so_X10_moveAll (l : Launch) (G : Gm) (h : Nat) (a1 : Nat) (a2 : Nat) (M : Mem) (Q : Mem → Prop) (hw : wp_X10_moveAll h a1 a2 M Q) : Ct l G yX10_moveAll cX10_moveAll 4 none ({ frames := 0, cells := 0, slots := 0, locals := 0 } : Room) [.ref (G.1 + h), .ref (G.1 + a1), .ref (G.1 + a2)] M (Qv Q) := by
  unfold wp_X10_moveAll at hw
  obtain ⟨kh, ka1, ka2, hw⟩ := hw
  refine ct_of (by decide) (Nat.le_of_ble_eq_true rfl) ?_
  intro p e s m below meth c E_ ls H hl hP hS
  obtain ⟨hx, hb, hml, hown, hts, ht, hr, hlocks, hSt, hTb⟩ := E_
  have hl : lv_has ls 4 [(0, .ref (G.1 + h)), (1, .ref (G.1 + a1)), (2, .ref (G.1 + a2))] := hl
  have L_2 : ∀ (r1 : Nat) (r2 : Nat), kdT r1 = 11 → kdT r2 = 11 → ∀ (n2 : Nat) (v3 : Int32) (M : Mem) (H : Heap) (locs : List Loc) (ls : Array Slot), l_X10_moveAll_2 h Q r1 r2 n2 v3 M → va_P G.2.1 clsA (wl G M) H → va_S (inW G) s.heap H locs → lv_has ls 4 [(0, .ref (G.1 + h)), (1, .ref (G.1 + r1)), (2, .ref (G.1 + r2)), (3, .int v3)] → W p l e ({ frames := 0, cells := 0, slots := 0, locals := 0 } : Room) s m ([.ref (G.1 + h), .ref (G.1 + a1), .ref (G.1 + a2)] : List Value).toArray below meth c H locs 0 0 (MQ below (Pq G (Qv Q)) ([.ref (G.1 + h), .ref (G.1 + a1), .ref (G.1 + a2)] : List Value).toArray s 0 0 (inW G)) (F0 m 2 ls []) := by
    intro r1 r2 kr1 kr2 n2
    induction n2 with
    | zero => intro v3 M H locs ls  hw hP hS hl; exact False.elim hw
    | succ n2 ih2 =>
      intro v3 M H locs ls  hw hP hS hl
      have hw : B_X10_moveAll_2 h Q r1 r2 (l_X10_moveAll_2 h Q r1 r2 n2) v3 M := hw
      unfold B_X10_moveAll_2 at hw
      refine lv_iload_n hx hb dX10_moveAll_2 rfl (lv_at hl 3 rfl) ?_
      refine lv_sipush (v := 242) hx hb dX10_moveAll_3 (by decide) ?_
      refine lv_icmp_ge (tgt := 21) hx hb dX10_moveAll_6 (by decide) (fun c_1 => ?_) (fun c_1 => ?_)
      · have hw := hw.1 c_1
        exact W.vret hx hb hr (mw_end hP hSt hTb hS ⟨rfl, hw⟩) hS.2.2 dX10_moveAll_21
      · have hw := hw.2 c_1
        refine lv_aload_n hx hb dX10_moveAll_9 rfl (lv_at hl 2 rfl) ?_
        refine lv_iload_n hx hb dX10_moveAll_10 rfl (lv_at hl 3 rfl) ?_
        refine lv_aload_n hx hb dX10_moveAll_11 rfl (lv_at hl 1 rfl) ?_
        refine lv_iload_n hx hb dX10_moveAll_12 rfl (lv_at hl 3 rfl) ?_
        obtain ⟨c_2, hw⟩ := hw
        refine mw_iald hx hb hSt hP kr1 c_2 dX10_moveAll_13 ?_
        obtain ⟨c_3, hw⟩ := hw
        refine mw_iast hx hb hSt hP hS kr2 c_3 dX10_moveAll_14 (fun M_4 H locs eM_4 hP hS => ?_)
        have hw := hw M_4 eM_4
        obtain ⟨x_5, ex_5⟩ : ∃ z : Int32, z = v3 + 1 := ⟨_, rfl⟩
        have hw := hw x_5 ex_5
        refine lv_iinc (v := x_5) (lv' := [(3, .int x_5), (0, .ref (G.1 + h)), (1, .ref (G.1 + r1)), (2, .ref (G.1 + r2))]) hx hb dX10_moveAll_15 hl (k := 3) rfl (by rw [ex_5]; rfl) (by decide) rfl (fun ls hl => ?_)
        refine lv_goto (tgt := 2) hx hb dX10_moveAll_18 (by decide) ?_
        exact ih2 x_5 M_4 _ _ _ hw hP hS (lv_sub hl [1, 2, 3, 0] rfl)
  refine lv_iconst (v := 0) hx hb dX10_moveAll_0 (by decide) ?_
  refine lv_istore_n (lv' := [(3, .int 0), (0, .ref (G.1 + h)), (1, .ref (G.1 + a1)), (2, .ref (G.1 + a2))]) hx hb dX10_moveAll_1 rfl hl (by decide) rfl (fun ls hl => ?_)
  obtain ⟨n_, hw⟩ := hw
  exact L_2 a1 a2 ka1 ka2 n_ 0 M _ _ _ hw hP hS (lv_sub hl [1, 2, 3, 0] rfl)
def b_X10_then_92 (h : Nat) (Q : Int32 → Mem → Prop) (s0 : Int32) (M : Mem) : Prop :=
  wp_X10_moveAll h (h + 3) (h + 1) M (fun M_1 => Q s0 M_1)
def b_X10_then_27 (h : Nat) (Q : Int32 → Mem → Prop) (M : Mem) : Prop :=
  wp_X10_errs h (-1000000001) M (fun r_3 M_2 => Q r_3 M_2)
def wp_X10_then (h : Nat) (a1 : Int32) (a2 : Int32) (a3 : Int32) (M : Mem) (Q : Int32 → Mem → Prop) : Prop :=
  kdT h = 10 ∧ (wp_X10_in a1 0 60 M (fun r_5 M_4 => (r_5 = 0 → b_X10_then_27 h Q M_4) ∧ (¬ r_5 = 0 → wp_X10_isSheep h a2 M_4 (fun r_8 M_7 => (r_8 = 0 → b_X10_then_27 h Q M_7) ∧ (¬ r_8 = 0 → wp_X10_in a3 0 2 M_7 (fun r_11 M_10 => (¬ r_11 = 0 → wp_X10_moveAll h (h + 1) (h + 3) M_10 (fun M_13 => wp_X10_passes h a1 M_13 (fun M_14 => (¬ a3 = 0 → (¬ a3 = 1 → wp_X10_its h a2 2 M_14 (fun r_18 M_17 => vp_in (8 + r_18) 242 ∧ (b_X10_then_92 h Q (M_17 (h + 1) (8 + r_18).toNatClampNeg) M_17))) ∧ (a3 = 1 → wp_X10_its h a2 5 M_14 (fun r_21 M_20 => b_X10_then_92 h Q r_21 M_20))) ∧ (a3 = 0 → wp_X10_its h a2 3 M_14 (fun r_23 M_22 => b_X10_then_92 h Q r_23 M_22))))) ∧ (r_11 = 0 → b_X10_then_27 h Q M_10)))))))
set_option maxHeartbeats 4000000 in
set_option maxRecDepth 100000 in
theorem so_X10_then (l : Launch) (G : Gm) (h : Nat) (a1 : Int32) (a2 : Int32) (a3 : Int32) (M : Mem) (Q : Int32 → Mem → Prop) (hw : wp_X10_then h a1 a2 a3 M Q) : Ct l G yX10_then cX10_then 5 (some .int) ({ frames := 7, cells := 0, slots := 0, locals := 166 } : Room) [.ref (G.1 + h), .int a1, .int a2, .int a3] M (Qi Q) := by
  unfold wp_X10_then at hw
  obtain ⟨kh, hw⟩ := hw
  refine ct_of (by decide) (Nat.le_of_ble_eq_true rfl) ?_
  intro p e s m below meth c E_ ls H hl hP hS
  obtain ⟨hx, hb, hml, hown, hts, ht, hr, hlocks, hSt, hTb⟩ := E_
  have hl : lv_has ls 5 [(0, .ref (G.1 + h)), (1, .int a1), (2, .int a2), (3, .int a3)] := hl
  have J_92 : ∀ (s0 : Int32) (M : Mem) (H : Heap) (locs : List Loc) (ls : Array Slot), b_X10_then_92 h Q s0 M → va_P G.2.1 clsA (wl G M) H → va_S (inW G) s.heap H locs → lv_has ls 5 [(0, .ref (G.1 + h))] → W p l e ({ frames := 7, cells := 0, slots := 0, locals := 166 } : Room) s m ([.ref (G.1 + h), .int a1, .int a2, .int a3] : List Value).toArray below meth c H locs 0 0 (MQ below (Pq G (Qi Q)) ([.ref (G.1 + h), .int a1, .int a2, .int a3] : List Value).toArray s 0 0 (inW G)) (F0 m 92 ls [.int s0]) := by
    intro s0 M H locs ls  hw hP hS hl
    unfold b_X10_then_92 at hw
    refine lv_istore (lv' := [(4, .int s0), (0, .ref (G.1 + h))]) hx hb dX10_then_92 hl (by decide) rfl (fun ls hl => ?_)
    refine lv_aload_n hx hb dX10_then_94 rfl (lv_at hl 1 rfl) ?_
    refine lv_aload_n hx hb dX10_then_95 rfl (lv_at hl 1 rfl) ?_
    refine mw_get (ci := 10) (v := .ref (G.1 + (h + 3))) (C := RX10) (T := TX10) (N := 25) hx hb ht inX10 hown hSt hP kh (by decide) (mk10 kh) rfl 2 (by decide) (ht _ wf_RX10_16) rfl rfl dX10_then_96 ?_
    refine lv_aload_n hx hb dX10_then_99 rfl (lv_at hl 1 rfl) ?_
    refine mw_get (ci := 10) (v := .ref (G.1 + (h + 1))) (C := RX10) (T := TX10) (N := 25) hx hb ht inX10 hown hSt hP kh (by decide) (mk10 kh) rfl 0 (by decide) (ht _ wf_RX10_7) rfl rfl dX10_then_100 ?_
    refine mw_V (As := [.ref (G.1 + (h + 3)), .ref (G.1 + (h + 1))]) (rest := []) (T := TX10) (N := 25) (n := 2) ⟨hx, hb, hml, hown, hts⟩ (so_X10_moveAll l G h (h + 3) (h + 1) M _ hw) wm_RX10_188 wi_yX10_moveAll wv_yX10_moveAll wn_RX10 wc_yX10_moveAll (by decide) ⟨Nat.le_of_ble_eq_true rfl, Nat.le_of_ble_eq_true rfl⟩ ⟨rfl, rfl⟩ kh (by decide) (mk10 kh) rfl hSt hTb hP hS rfl hl.1 rfl (Nat.le_of_ble_eq_true rfl) dX10_then_103 ⟨Nat.le_refl 0, Nat.le_refl 0⟩ (fun rr_ M_1 H locs hq hP hS => ?_)
    obtain ⟨rfl, hw⟩ := hq
    refine lv_iload hx hb dX10_then_106 (lv_at hl 0 rfl) ?_
    exact W.iret hx hb hr (mw_end hP hSt hTb hS ⟨_, rfl, hw⟩) hS.2.2 dX10_then_108
  have J_27 : ∀  (M : Mem) (H : Heap) (locs : List Loc) (ls : Array Slot), b_X10_then_27 h Q M → va_P G.2.1 clsA (wl G M) H → va_S (inW G) s.heap H locs → lv_has ls 5 [(0, .ref (G.1 + h))] → W p l e ({ frames := 7, cells := 0, slots := 0, locals := 166 } : Room) s m ([.ref (G.1 + h), .int a1, .int a2, .int a3] : List Value).toArray below meth c H locs 0 0 (MQ below (Pq G (Qi Q)) ([.ref (G.1 + h), .int a1, .int a2, .int a3] : List Value).toArray s 0 0 (inW G)) (F0 m 27 ls []) := by
    intro  M H locs ls  hw hP hS hl
    unfold b_X10_then_27 at hw
    refine lv_aload_n hx hb dX10_then_27 rfl (lv_at hl 0 rfl) ?_
    refine lv_ldc (v := (-1000000001)) hx hb hown (ht _ wk_RX10_62) dX10_then_28 ?_
    refine mw_V (As := [.int (-1000000001)]) (rest := []) (T := TX10) (N := 25) (n := 1) ⟨hx, hb, hml, hown, hts⟩ (so_X10_errs l G h (-1000000001) M _ hw) wm_RX10_63 wi_yX10_errs wv_yX10_errs wn_RX10 wc_yX10_errs (by decide) ⟨Nat.le_of_ble_eq_true rfl, Nat.le_of_ble_eq_true rfl⟩ ⟨rfl, rfl⟩ kh (by decide) (mk10 kh) rfl hSt hTb hP hS rfl hl.1 rfl (Nat.le_of_ble_eq_true rfl) dX10_then_30 ⟨Nat.le_refl 0, Nat.le_refl 0⟩ (fun rr_ M_2 H locs hq hP hS => ?_)
    obtain ⟨r_3, rfl, hw⟩ := hq
    exact W.iret hx hb hr (mw_end hP hSt hTb hS ⟨_, rfl, hw⟩) hS.2.2 dX10_then_33
  refine lv_iload_n hx hb dX10_then_0 rfl (lv_at hl 1 rfl) ?_
  refine lv_iconst (v := 0) hx hb dX10_then_1 (by decide) ?_
  refine lv_bipush (v := 60) hx hb dX10_then_2 (by decide) ?_
  refine mw_Sx (As := [.int a1, .int 0, .int 60]) (rest := []) (n := 3) ⟨hx, hb, hml, hown, hts⟩ (so_X10_in l G a1 0 60 M _ hw) wm_RX10_50 wt_yX10_in wn_RX10 wc_yX10_in (by decide) ⟨Nat.le_of_ble_eq_true rfl, Nat.le_of_ble_eq_true rfl⟩ ⟨rfl, rfl⟩ hSt hTb hP hS rfl hl.1 rfl (Nat.le_of_ble_eq_true rfl) dX10_then_4 ⟨Nat.le_refl 0, Nat.le_refl 0⟩ (fun rr_ M_4 H locs hq hP hS => ?_)
  obtain ⟨r_5, rfl, hw⟩ := hq
  refine lv_if_eq (tgt := 27) hx hb dX10_then_7 (by decide) (fun c_6 => ?_) (fun c_6 => ?_)
  · have hw := hw.1 c_6
    exact J_27 M_4 _ _ _ hw hP hS (lv_sub hl [0] rfl)
  · have hw := hw.2 c_6
    refine lv_aload_n hx hb dX10_then_10 rfl (lv_at hl 0 rfl) ?_
    refine lv_iload_n hx hb dX10_then_11 rfl (lv_at hl 2 rfl) ?_
    refine mw_V (As := [.int a2]) (rest := []) (T := TX10) (N := 25) (n := 1) ⟨hx, hb, hml, hown, hts⟩ (so_X10_isSheep l G h a2 M_4 _ hw) wm_RX10_91 wi_yX10_isSheep wv_yX10_isSheep wn_RX10 wc_yX10_isSheep (by decide) ⟨Nat.le_of_ble_eq_true rfl, Nat.le_of_ble_eq_true rfl⟩ ⟨rfl, rfl⟩ kh (by decide) (mk10 kh) rfl hSt hTb hP hS rfl hl.1 rfl (Nat.le_of_ble_eq_true rfl) dX10_then_12 ⟨Nat.le_refl 0, Nat.le_refl 0⟩ (fun rr_ M_7 H locs hq hP hS => ?_)
    obtain ⟨r_8, rfl, hw⟩ := hq
    refine lv_if_eq (tgt := 27) hx hb dX10_then_15 (by decide) (fun c_9 => ?_) (fun c_9 => ?_)
    · have hw := hw.1 c_9
      exact J_27 M_7 _ _ _ hw hP hS (lv_sub hl [0] rfl)
    · have hw := hw.2 c_9
      refine lv_iload_n hx hb dX10_then_18 rfl (lv_at hl 3 rfl) ?_
      refine lv_iconst (v := 0) hx hb dX10_then_19 (by decide) ?_
      refine lv_iconst (v := 2) hx hb dX10_then_20 (by decide) ?_
      refine mw_Sx (As := [.int a3, .int 0, .int 2]) (rest := []) (n := 3) ⟨hx, hb, hml, hown, hts⟩ (so_X10_in l G a3 0 2 M_7 _ hw) wm_RX10_50 wt_yX10_in wn_RX10 wc_yX10_in (by decide) ⟨Nat.le_of_ble_eq_true rfl, Nat.le_of_ble_eq_true rfl⟩ ⟨rfl, rfl⟩ hSt hTb hP hS rfl hl.1 rfl (Nat.le_of_ble_eq_true rfl) dX10_then_21 ⟨Nat.le_refl 0, Nat.le_refl 0⟩ (fun rr_ M_10 H locs hq hP hS => ?_)
      obtain ⟨r_11, rfl, hw⟩ := hq
      refine lv_if_ne (tgt := 34) hx hb dX10_then_24 (by decide) (fun c_12 => ?_) (fun c_12 => ?_)
      · have hw := hw.1 c_12
        refine lv_aload_n hx hb dX10_then_34 rfl (lv_at hl 0 rfl) ?_
        refine lv_aload_n hx hb dX10_then_35 rfl (lv_at hl 0 rfl) ?_
        refine mw_get (ci := 10) (v := .ref (G.1 + (h + 1))) (C := RX10) (T := TX10) (N := 25) hx hb ht inX10 hown hSt hP kh (by decide) (mk10 kh) rfl 0 (by decide) (ht _ wf_RX10_7) rfl rfl dX10_then_36 ?_
        refine lv_aload_n hx hb dX10_then_39 rfl (lv_at hl 0 rfl) ?_
        refine mw_get (ci := 10) (v := .ref (G.1 + (h + 3))) (C := RX10) (T := TX10) (N := 25) hx hb ht inX10 hown hSt hP kh (by decide) (mk10 kh) rfl 2 (by decide) (ht _ wf_RX10_16) rfl rfl dX10_then_40 ?_
        refine mw_V (As := [.ref (G.1 + (h + 1)), .ref (G.1 + (h + 3))]) (rest := []) (T := TX10) (N := 25) (n := 2) ⟨hx, hb, hml, hown, hts⟩ (so_X10_moveAll l G h (h + 1) (h + 3) M_10 _ hw) wm_RX10_188 wi_yX10_moveAll wv_yX10_moveAll wn_RX10 wc_yX10_moveAll (by decide) ⟨Nat.le_of_ble_eq_true rfl, Nat.le_of_ble_eq_true rfl⟩ ⟨rfl, rfl⟩ kh (by decide) (mk10 kh) rfl hSt hTb hP hS rfl hl.1 rfl (Nat.le_of_ble_eq_true rfl) dX10_then_43 ⟨Nat.le_refl 0, Nat.le_refl 0⟩ (fun rr_ M_13 H locs hq hP hS => ?_)
        obtain ⟨rfl, hw⟩ := hq
        refine lv_aload_n hx hb dX10_then_46 rfl (lv_at hl 0 rfl) ?_
        refine lv_iload_n hx hb dX10_then_47 rfl (lv_at hl 1 rfl) ?_
        refine mw_V (As := [.int a1]) (rest := []) (T := TX10) (N := 25) (n := 1) ⟨hx, hb, hml, hown, hts⟩ (so_X10_passes l G h a1 M_13 _ hw) wm_RX10_192 wi_yX10_passes wv_yX10_passes wn_RX10 wc_yX10_passes (by decide) ⟨Nat.le_of_ble_eq_true rfl, Nat.le_of_ble_eq_true rfl⟩ ⟨rfl, rfl⟩ kh (by decide) (mk10 kh) rfl hSt hTb hP hS rfl hl.1 rfl (Nat.le_of_ble_eq_true rfl) dX10_then_48 ⟨Nat.le_refl 0, Nat.le_refl 0⟩ (fun rr_ M_14 H locs hq hP hS => ?_)
        obtain ⟨rfl, hw⟩ := hq
        refine lv_iload_n hx hb dX10_then_51 rfl (lv_at hl 3 rfl) ?_
        refine lv_if_ne (tgt := 64) hx hb dX10_then_52 (by decide) (fun c_15 => ?_) (fun c_15 => ?_)
        · have hw := hw.1 c_15
          refine lv_iload_n hx hb dX10_then_64 rfl (lv_at hl 3 rfl) ?_
          refine lv_iconst (v := 1) hx hb dX10_then_65 (by decide) ?_
          refine lv_icmp_ne (tgt := 78) hx hb dX10_then_66 (by decide) (fun c_16 => ?_) (fun c_16 => ?_)
          · have hw := hw.1 c_16
            refine lv_aload_n hx hb dX10_then_78 rfl (lv_at hl 0 rfl) ?_
            refine mw_get (ci := 10) (v := .ref (G.1 + (h + 1))) (C := RX10) (T := TX10) (N := 25) hx hb ht inX10 hown hSt hP kh (by decide) (mk10 kh) rfl 0 (by decide) (ht _ wf_RX10_7) rfl rfl dX10_then_79 ?_
            refine lv_bipush (v := 8) hx hb dX10_then_82 (by decide) ?_
            refine lv_aload_n hx hb dX10_then_84 rfl (lv_at hl 0 rfl) ?_
            refine lv_iload_n hx hb dX10_then_85 rfl (lv_at hl 2 rfl) ?_
            refine lv_iconst (v := 2) hx hb dX10_then_86 (by decide) ?_
            refine mw_V (As := [.int a2, .int 2]) (rest := [.int 8, .ref (G.1 + (h + 1))]) (T := TX10) (N := 25) (n := 2) ⟨hx, hb, hml, hown, hts⟩ (so_X10_its l G h a2 2 M_14 _ hw) wm_RX10_67 wi_yX10_its wv_yX10_its wn_RX10 wc_yX10_its (by decide) ⟨Nat.le_of_ble_eq_true rfl, Nat.le_of_ble_eq_true rfl⟩ ⟨rfl, rfl⟩ kh (by decide) (mk10 kh) rfl hSt hTb hP hS rfl hl.1 rfl (Nat.le_of_ble_eq_true rfl) dX10_then_87 ⟨Nat.le_refl 0, Nat.le_refl 0⟩ (fun rr_ M_17 H locs hq hP hS => ?_)
            obtain ⟨r_18, rfl, hw⟩ := hq
            refine lv_iadd hx hb dX10_then_90 ?_
            obtain ⟨c_19, hw⟩ := hw
            refine mw_iald hx hb hSt hP (ks10_0 kh) (by rw [(ln10_0 kh)]; exact c_19) dX10_then_91 ?_
            exact J_92 (M_17 (h + 1) (8 + r_18).toNatClampNeg) M_17 _ _ _ hw hP hS (lv_sub hl [0] rfl)
          · have hw := hw.2 c_16
            refine lv_aload_n hx hb dX10_then_69 rfl (lv_at hl 0 rfl) ?_
            refine lv_iload_n hx hb dX10_then_70 rfl (lv_at hl 2 rfl) ?_
            refine lv_iconst (v := 5) hx hb dX10_then_71 (by decide) ?_
            refine mw_V (As := [.int a2, .int 5]) (rest := []) (T := TX10) (N := 25) (n := 2) ⟨hx, hb, hml, hown, hts⟩ (so_X10_its l G h a2 5 M_14 _ hw) wm_RX10_67 wi_yX10_its wv_yX10_its wn_RX10 wc_yX10_its (by decide) ⟨Nat.le_of_ble_eq_true rfl, Nat.le_of_ble_eq_true rfl⟩ ⟨rfl, rfl⟩ kh (by decide) (mk10 kh) rfl hSt hTb hP hS rfl hl.1 rfl (Nat.le_of_ble_eq_true rfl) dX10_then_72 ⟨Nat.le_refl 0, Nat.le_refl 0⟩ (fun rr_ M_20 H locs hq hP hS => ?_)
            obtain ⟨r_21, rfl, hw⟩ := hq
            refine lv_goto (tgt := 92) hx hb dX10_then_75 (by decide) ?_
            exact J_92 r_21 M_20 _ _ _ hw hP hS (lv_sub hl [0] rfl)
        · have hw := hw.2 c_15
          refine lv_aload_n hx hb dX10_then_55 rfl (lv_at hl 0 rfl) ?_
          refine lv_iload_n hx hb dX10_then_56 rfl (lv_at hl 2 rfl) ?_
          refine lv_iconst (v := 3) hx hb dX10_then_57 (by decide) ?_
          refine mw_V (As := [.int a2, .int 3]) (rest := []) (T := TX10) (N := 25) (n := 2) ⟨hx, hb, hml, hown, hts⟩ (so_X10_its l G h a2 3 M_14 _ hw) wm_RX10_67 wi_yX10_its wv_yX10_its wn_RX10 wc_yX10_its (by decide) ⟨Nat.le_of_ble_eq_true rfl, Nat.le_of_ble_eq_true rfl⟩ ⟨rfl, rfl⟩ kh (by decide) (mk10 kh) rfl hSt hTb hP hS rfl hl.1 rfl (Nat.le_of_ble_eq_true rfl) dX10_then_58 ⟨Nat.le_refl 0, Nat.le_refl 0⟩ (fun rr_ M_22 H locs hq hP hS => ?_)
          obtain ⟨r_23, rfl, hw⟩ := hq
          refine lv_goto (tgt := 92) hx hb dX10_then_61 (by decide) ?_
          exact J_92 r_23 M_22 _ _ _ hw hP hS (lv_sub hl [0] rfl)
      · have hw := hw.2 c_12
        exact J_27 M_10 _ _ _ hw hP hS (lv_sub hl [0] rfl)
def b_X10_when_54 (h : Nat) (Q : Int32 → Mem → Prop) (v2 : Int32) (M : Mem) : Prop :=
  wp_X10_moveAll h (h + 3) (h + 1) M (fun M_1 => (v2 ≤ 60 → Q v2 M_1) ∧ (¬ v2 ≤ 60 → wp_X10_errs h (-1000000002) M_1 (fun r_4 M_3 => Q r_4 M_3)))
def B_X10_when_29 (h : Nat) (Q : Int32 → Mem → Prop) (v1 : Int32) (K29 : Int32 → Mem → Prop) (v2 : Int32) (M : Mem) : Prop :=
  (60 < v2 → b_X10_when_54 h Q v2 M) ∧ (¬ 60 < v2 → wp_X10_its h v1 5 M (fun r_7 M_6 => (¬ r_7 = 0 → b_X10_when_54 h Q v2 M_6) ∧ (r_7 = 0 → wp_X10_oneHour h M_6 (fun M_9 => ∀ x_10 : Int32, x_10 = v2 + 1 → K29 x_10 M_9))))
def l_X10_when_29 (h : Nat) (Q : Int32 → Mem → Prop) (v1 : Int32) : Nat → Int32 → Mem → Prop
  | 0 => fun _ _ => False
  | n + 1 => B_X10_when_29 h Q v1 (l_X10_when_29 h Q v1 n)
def wp_X10_when (h : Nat) (a1 : Int32) (M : Mem) (Q : Int32 → Mem → Prop) : Prop :=
  kdT h = 10 ∧ (wp_X10_isSheep h a1 M (fun r_12 M_11 => (¬ r_12 = 0 → wp_X10_moveAll h (h + 1) (h + 3) M_11 (fun M_14 => ∃ n, l_X10_when_29 h Q a1 n 0 M_14)) ∧ (r_12 = 0 → wp_X10_errs h (-1000000001) M_11 (fun r_16 M_15 => Q r_16 M_15))))
set_option maxHeartbeats 4000000 in
set_option maxRecDepth 100000 in
theorem so_X10_when (l : Launch) (G : Gm) (h : Nat) (a1 : Int32) (M : Mem) (Q : Int32 → Mem → Prop) (hw : wp_X10_when h a1 M Q) : Ct l G yX10_when cX10_when 3 (some .int) ({ frames := 6, cells := 0, slots := 0, locals := 144 } : Room) [.ref (G.1 + h), .int a1] M (Qi Q) := by
  unfold wp_X10_when at hw
  obtain ⟨kh, hw⟩ := hw
  refine ct_of (by decide) (Nat.le_of_ble_eq_true rfl) ?_
  intro p e s m below meth c E_ ls H hl hP hS
  obtain ⟨hx, hb, hml, hown, hts, ht, hr, hlocks, hSt, hTb⟩ := E_
  have hl : lv_has ls 3 [(0, .ref (G.1 + h)), (1, .int a1)] := hl
  have J_54 : ∀ (v2 : Int32) (M : Mem) (H : Heap) (locs : List Loc) (ls : Array Slot), b_X10_when_54 h Q v2 M → va_P G.2.1 clsA (wl G M) H → va_S (inW G) s.heap H locs → lv_has ls 3 [(0, .ref (G.1 + h)), (2, .int v2)] → W p l e ({ frames := 6, cells := 0, slots := 0, locals := 144 } : Room) s m ([.ref (G.1 + h), .int a1] : List Value).toArray below meth c H locs 0 0 (MQ below (Pq G (Qi Q)) ([.ref (G.1 + h), .int a1] : List Value).toArray s 0 0 (inW G)) (F0 m 54 ls []) := by
    intro v2 M H locs ls  hw hP hS hl
    unfold b_X10_when_54 at hw
    refine lv_aload_n hx hb dX10_when_54 rfl (lv_at hl 0 rfl) ?_
    refine lv_aload_n hx hb dX10_when_55 rfl (lv_at hl 0 rfl) ?_
    refine mw_get (ci := 10) (v := .ref (G.1 + (h + 3))) (C := RX10) (T := TX10) (N := 25) hx hb ht inX10 hown hSt hP kh (by decide) (mk10 kh) rfl 2 (by decide) (ht _ wf_RX10_16) rfl rfl dX10_when_56 ?_
    refine lv_aload_n hx hb dX10_when_59 rfl (lv_at hl 0 rfl) ?_
    refine mw_get (ci := 10) (v := .ref (G.1 + (h + 1))) (C := RX10) (T := TX10) (N := 25) hx hb ht inX10 hown hSt hP kh (by decide) (mk10 kh) rfl 0 (by decide) (ht _ wf_RX10_7) rfl rfl dX10_when_60 ?_
    refine mw_V (As := [.ref (G.1 + (h + 3)), .ref (G.1 + (h + 1))]) (rest := []) (T := TX10) (N := 25) (n := 2) ⟨hx, hb, hml, hown, hts⟩ (so_X10_moveAll l G h (h + 3) (h + 1) M _ hw) wm_RX10_188 wi_yX10_moveAll wv_yX10_moveAll wn_RX10 wc_yX10_moveAll (by decide) ⟨Nat.le_of_ble_eq_true rfl, Nat.le_of_ble_eq_true rfl⟩ ⟨rfl, rfl⟩ kh (by decide) (mk10 kh) rfl hSt hTb hP hS rfl hl.1 rfl (Nat.le_of_ble_eq_true rfl) dX10_when_63 ⟨Nat.le_refl 0, Nat.le_refl 0⟩ (fun rr_ M_1 H locs hq hP hS => ?_)
    obtain ⟨rfl, hw⟩ := hq
    refine lv_iload_n hx hb dX10_when_66 rfl (lv_at hl 1 rfl) ?_
    refine lv_bipush (v := 60) hx hb dX10_when_67 (by decide) ?_
    refine lv_icmp_le (tgt := 81) hx hb dX10_when_69 (by decide) (fun c_2 => ?_) (fun c_2 => ?_)
    · have hw := hw.1 c_2
      refine lv_iload_n hx hb dX10_when_81 rfl (lv_at hl 1 rfl) ?_
      exact W.iret hx hb hr (mw_end hP hSt hTb hS ⟨_, rfl, hw⟩) hS.2.2 dX10_when_82
    · have hw := hw.2 c_2
      refine lv_aload_n hx hb dX10_when_72 rfl (lv_at hl 0 rfl) ?_
      refine lv_ldc (v := (-1000000002)) hx hb hown (ht _ wk_RX10_204) dX10_when_73 ?_
      refine mw_V (As := [.int (-1000000002)]) (rest := []) (T := TX10) (N := 25) (n := 1) ⟨hx, hb, hml, hown, hts⟩ (so_X10_errs l G h (-1000000002) M_1 _ hw) wm_RX10_63 wi_yX10_errs wv_yX10_errs wn_RX10 wc_yX10_errs (by decide) ⟨Nat.le_of_ble_eq_true rfl, Nat.le_of_ble_eq_true rfl⟩ ⟨rfl, rfl⟩ kh (by decide) (mk10 kh) rfl hSt hTb hP hS rfl hl.1 rfl (Nat.le_of_ble_eq_true rfl) dX10_when_75 ⟨Nat.le_refl 0, Nat.le_refl 0⟩ (fun rr_ M_3 H locs hq hP hS => ?_)
      obtain ⟨r_4, rfl, hw⟩ := hq
      refine lv_goto (tgt := 82) hx hb dX10_when_78 (by decide) ?_
      exact W.iret hx hb hr (mw_end hP hSt hTb hS ⟨_, rfl, hw⟩) hS.2.2 dX10_when_82
  have L_29 : ∀ (v1 : Int32), ∀ (n29 : Nat) (v2 : Int32) (M : Mem) (H : Heap) (locs : List Loc) (ls : Array Slot), l_X10_when_29 h Q v1 n29 v2 M → va_P G.2.1 clsA (wl G M) H → va_S (inW G) s.heap H locs → lv_has ls 3 [(0, .ref (G.1 + h)), (1, .int v1), (2, .int v2)] → W p l e ({ frames := 6, cells := 0, slots := 0, locals := 144 } : Room) s m ([.ref (G.1 + h), .int a1] : List Value).toArray below meth c H locs 0 0 (MQ below (Pq G (Qi Q)) ([.ref (G.1 + h), .int a1] : List Value).toArray s 0 0 (inW G)) (F0 m 29 ls []) := by
    intro v1  n29
    induction n29 with
    | zero => intro v2 M H locs ls  hw hP hS hl; exact False.elim hw
    | succ n29 ih29 =>
      intro v2 M H locs ls  hw hP hS hl
      have hw : B_X10_when_29 h Q v1 (l_X10_when_29 h Q v1 n29) v2 M := hw
      unfold B_X10_when_29 at hw
      refine lv_iload_n hx hb dX10_when_29 rfl (lv_at hl 2 rfl) ?_
      refine lv_bipush (v := 60) hx hb dX10_when_30 (by decide) ?_
      refine lv_icmp_gt (tgt := 54) hx hb dX10_when_32 (by decide) (fun c_5 => ?_) (fun c_5 => ?_)
      · have hw := hw.1 c_5
        exact J_54 v2 M _ _ _ hw hP hS (lv_sub hl [0, 2] rfl)
      · have hw := hw.2 c_5
        refine lv_aload_n hx hb dX10_when_35 rfl (lv_at hl 0 rfl) ?_
        refine lv_iload_n hx hb dX10_when_36 rfl (lv_at hl 1 rfl) ?_
        refine lv_iconst (v := 5) hx hb dX10_when_37 (by decide) ?_
        refine mw_V (As := [.int v1, .int 5]) (rest := []) (T := TX10) (N := 25) (n := 2) ⟨hx, hb, hml, hown, hts⟩ (so_X10_its l G h v1 5 M _ hw) wm_RX10_67 wi_yX10_its wv_yX10_its wn_RX10 wc_yX10_its (by decide) ⟨Nat.le_of_ble_eq_true rfl, Nat.le_of_ble_eq_true rfl⟩ ⟨rfl, rfl⟩ kh (by decide) (mk10 kh) rfl hSt hTb hP hS rfl hl.1 rfl (Nat.le_of_ble_eq_true rfl) dX10_when_38 ⟨Nat.le_refl 0, Nat.le_refl 0⟩ (fun rr_ M_6 H locs hq hP hS => ?_)
        obtain ⟨r_7, rfl, hw⟩ := hq
        refine lv_if_ne (tgt := 54) hx hb dX10_when_41 (by decide) (fun c_8 => ?_) (fun c_8 => ?_)
        · have hw := hw.1 c_8
          exact J_54 v2 M_6 _ _ _ hw hP hS (lv_sub hl [0, 2] rfl)
        · have hw := hw.2 c_8
          refine lv_aload_n hx hb dX10_when_44 rfl (lv_at hl 0 rfl) ?_
          refine mw_V (As := []) (rest := []) (T := TX10) (N := 25) (n := 0) ⟨hx, hb, hml, hown, hts⟩ (so_X10_oneHour l G h M_6 _ hw) wm_RX10_185 wi_yX10_oneHour wv_yX10_oneHour wn_RX10 wc_yX10_oneHour (by decide) ⟨Nat.le_of_ble_eq_true rfl, Nat.le_of_ble_eq_true rfl⟩ ⟨rfl, rfl⟩ kh (by decide) (mk10 kh) rfl hSt hTb hP hS rfl hl.1 rfl (Nat.le_of_ble_eq_true rfl) dX10_when_45 ⟨Nat.le_refl 0, Nat.le_refl 0⟩ (fun rr_ M_9 H locs hq hP hS => ?_)
          obtain ⟨rfl, hw⟩ := hq
          obtain ⟨x_10, ex_10⟩ : ∃ z : Int32, z = v2 + 1 := ⟨_, rfl⟩
          have hw := hw x_10 ex_10
          refine lv_iinc (v := x_10) (lv' := [(2, .int x_10), (0, .ref (G.1 + h)), (1, .int v1)]) hx hb dX10_when_48 hl (k := 2) rfl (by rw [ex_10]; rfl) (by decide) rfl (fun ls hl => ?_)
          refine lv_goto (tgt := 29) hx hb dX10_when_51 (by decide) ?_
          exact ih29 x_10 M_9 _ _ _ hw hP hS (lv_sub hl [1, 2, 0] rfl)
  refine lv_aload_n hx hb dX10_when_0 rfl (lv_at hl 0 rfl) ?_
  refine lv_iload_n hx hb dX10_when_1 rfl (lv_at hl 1 rfl) ?_
  refine mw_V (As := [.int a1]) (rest := []) (T := TX10) (N := 25) (n := 1) ⟨hx, hb, hml, hown, hts⟩ (so_X10_isSheep l G h a1 M _ hw) wm_RX10_91 wi_yX10_isSheep wv_yX10_isSheep wn_RX10 wc_yX10_isSheep (by decide) ⟨Nat.le_of_ble_eq_true rfl, Nat.le_of_ble_eq_true rfl⟩ ⟨rfl, rfl⟩ kh (by decide) (mk10 kh) rfl hSt hTb hP hS rfl hl.1 rfl (Nat.le_of_ble_eq_true rfl) dX10_when_2 ⟨Nat.le_refl 0, Nat.le_refl 0⟩ (fun rr_ M_11 H locs hq hP hS => ?_)
  obtain ⟨r_12, rfl, hw⟩ := hq
  refine lv_if_ne (tgt := 15) hx hb dX10_when_5 (by decide) (fun c_13 => ?_) (fun c_13 => ?_)
  · have hw := hw.1 c_13
    refine lv_aload_n hx hb dX10_when_15 rfl (lv_at hl 0 rfl) ?_
    refine lv_aload_n hx hb dX10_when_16 rfl (lv_at hl 0 rfl) ?_
    refine mw_get (ci := 10) (v := .ref (G.1 + (h + 1))) (C := RX10) (T := TX10) (N := 25) hx hb ht inX10 hown hSt hP kh (by decide) (mk10 kh) rfl 0 (by decide) (ht _ wf_RX10_7) rfl rfl dX10_when_17 ?_
    refine lv_aload_n hx hb dX10_when_20 rfl (lv_at hl 0 rfl) ?_
    refine mw_get (ci := 10) (v := .ref (G.1 + (h + 3))) (C := RX10) (T := TX10) (N := 25) hx hb ht inX10 hown hSt hP kh (by decide) (mk10 kh) rfl 2 (by decide) (ht _ wf_RX10_16) rfl rfl dX10_when_21 ?_
    refine mw_V (As := [.ref (G.1 + (h + 1)), .ref (G.1 + (h + 3))]) (rest := []) (T := TX10) (N := 25) (n := 2) ⟨hx, hb, hml, hown, hts⟩ (so_X10_moveAll l G h (h + 1) (h + 3) M_11 _ hw) wm_RX10_188 wi_yX10_moveAll wv_yX10_moveAll wn_RX10 wc_yX10_moveAll (by decide) ⟨Nat.le_of_ble_eq_true rfl, Nat.le_of_ble_eq_true rfl⟩ ⟨rfl, rfl⟩ kh (by decide) (mk10 kh) rfl hSt hTb hP hS rfl hl.1 rfl (Nat.le_of_ble_eq_true rfl) dX10_when_24 ⟨Nat.le_refl 0, Nat.le_refl 0⟩ (fun rr_ M_14 H locs hq hP hS => ?_)
    obtain ⟨rfl, hw⟩ := hq
    refine lv_iconst (v := 0) hx hb dX10_when_27 (by decide) ?_
    refine lv_istore_n (lv' := [(2, .int 0), (0, .ref (G.1 + h)), (1, .int a1)]) hx hb dX10_when_28 rfl hl (by decide) rfl (fun ls hl => ?_)
    obtain ⟨n_, hw⟩ := hw
    exact L_29 a1 n_ 0 M_14 _ _ _ hw hP hS (lv_sub hl [1, 2, 0] rfl)
  · have hw := hw.2 c_13
    refine lv_aload_n hx hb dX10_when_8 rfl (lv_at hl 0 rfl) ?_
    refine lv_ldc (v := (-1000000001)) hx hb hown (ht _ wk_RX10_62) dX10_when_9 ?_
    refine mw_V (As := [.int (-1000000001)]) (rest := []) (T := TX10) (N := 25) (n := 1) ⟨hx, hb, hml, hown, hts⟩ (so_X10_errs l G h (-1000000001) M_11 _ hw) wm_RX10_63 wi_yX10_errs wv_yX10_errs wn_RX10 wc_yX10_errs (by decide) ⟨Nat.le_of_ble_eq_true rfl, Nat.le_of_ble_eq_true rfl⟩ ⟨rfl, rfl⟩ kh (by decide) (mk10 kh) rfl hSt hTb hP hS rfl hl.1 rfl (Nat.le_of_ble_eq_true rfl) dX10_when_11 ⟨Nat.le_refl 0, Nat.le_refl 0⟩ (fun rr_ M_15 H locs hq hP hS => ?_)
    obtain ⟨r_16, rfl, hw⟩ := hq
    exact W.iret hx hb hr (mw_end hP hSt hTb hS ⟨_, rfl, hw⟩) hS.2.2 dX10_when_14
def wp_X10_foundBehind (h : Nat) (a1 : Int32) (M : Mem) (Q : Int32 → Mem → Prop) : Prop :=
  kdT h = 10 ∧ (wp_X10_moveAll h (h + 1) (h + 3) M (fun M_1 => wp_X10_passes h a1 M_1 (fun M_2 => wp_X10_foundSet h M_2 (fun r_4 M_3 => wp_X10_moveAll h (h + 3) (h + 1) M_3 (fun M_5 => Q r_4 M_5)))))
set_option maxHeartbeats 4000000 in
set_option maxRecDepth 100000 in
theorem so_X10_foundBehind (l : Launch) (G : Gm) (h : Nat) (a1 : Int32) (M : Mem) (Q : Int32 → Mem → Prop) (hw : wp_X10_foundBehind h a1 M Q) : Ct l G yX10_foundBehind cX10_foundBehind 3 (some .int) ({ frames := 7, cells := 0, slots := 0, locals := 166 } : Room) [.ref (G.1 + h), .int a1] M (Qi Q) := by
  unfold wp_X10_foundBehind at hw
  obtain ⟨kh, hw⟩ := hw
  refine ct_of (by decide) (Nat.le_of_ble_eq_true rfl) ?_
  intro p e s m below meth c E_ ls H hl hP hS
  obtain ⟨hx, hb, hml, hown, hts, ht, hr, hlocks, hSt, hTb⟩ := E_
  have hl : lv_has ls 3 [(0, .ref (G.1 + h)), (1, .int a1)] := hl
  refine lv_aload_n hx hb dX10_foundBehind_0 rfl (lv_at hl 0 rfl) ?_
  refine lv_aload_n hx hb dX10_foundBehind_1 rfl (lv_at hl 0 rfl) ?_
  refine mw_get (ci := 10) (v := .ref (G.1 + (h + 1))) (C := RX10) (T := TX10) (N := 25) hx hb ht inX10 hown hSt hP kh (by decide) (mk10 kh) rfl 0 (by decide) (ht _ wf_RX10_7) rfl rfl dX10_foundBehind_2 ?_
  refine lv_aload_n hx hb dX10_foundBehind_5 rfl (lv_at hl 0 rfl) ?_
  refine mw_get (ci := 10) (v := .ref (G.1 + (h + 3))) (C := RX10) (T := TX10) (N := 25) hx hb ht inX10 hown hSt hP kh (by decide) (mk10 kh) rfl 2 (by decide) (ht _ wf_RX10_16) rfl rfl dX10_foundBehind_6 ?_
  refine mw_V (As := [.ref (G.1 + (h + 1)), .ref (G.1 + (h + 3))]) (rest := []) (T := TX10) (N := 25) (n := 2) ⟨hx, hb, hml, hown, hts⟩ (so_X10_moveAll l G h (h + 1) (h + 3) M _ hw) wm_RX10_188 wi_yX10_moveAll wv_yX10_moveAll wn_RX10 wc_yX10_moveAll (by decide) ⟨Nat.le_of_ble_eq_true rfl, Nat.le_of_ble_eq_true rfl⟩ ⟨rfl, rfl⟩ kh (by decide) (mk10 kh) rfl hSt hTb hP hS rfl hl.1 rfl (Nat.le_of_ble_eq_true rfl) dX10_foundBehind_9 ⟨Nat.le_refl 0, Nat.le_refl 0⟩ (fun rr_ M_1 H locs hq hP hS => ?_)
  obtain ⟨rfl, hw⟩ := hq
  refine lv_aload_n hx hb dX10_foundBehind_12 rfl (lv_at hl 0 rfl) ?_
  refine lv_iload_n hx hb dX10_foundBehind_13 rfl (lv_at hl 1 rfl) ?_
  refine mw_V (As := [.int a1]) (rest := []) (T := TX10) (N := 25) (n := 1) ⟨hx, hb, hml, hown, hts⟩ (so_X10_passes l G h a1 M_1 _ hw) wm_RX10_192 wi_yX10_passes wv_yX10_passes wn_RX10 wc_yX10_passes (by decide) ⟨Nat.le_of_ble_eq_true rfl, Nat.le_of_ble_eq_true rfl⟩ ⟨rfl, rfl⟩ kh (by decide) (mk10 kh) rfl hSt hTb hP hS rfl hl.1 rfl (Nat.le_of_ble_eq_true rfl) dX10_foundBehind_14 ⟨Nat.le_refl 0, Nat.le_refl 0⟩ (fun rr_ M_2 H locs hq hP hS => ?_)
  obtain ⟨rfl, hw⟩ := hq
  refine lv_aload_n hx hb dX10_foundBehind_17 rfl (lv_at hl 0 rfl) ?_
  refine mw_V (As := []) (rest := []) (T := TX10) (N := 25) (n := 0) ⟨hx, hb, hml, hown, hts⟩ (so_X10_foundSet l G h M_2 _ hw) wm_RX10_195 wi_yX10_foundSet wv_yX10_foundSet wn_RX10 wc_yX10_foundSet (by decide) ⟨Nat.le_of_ble_eq_true rfl, Nat.le_of_ble_eq_true rfl⟩ ⟨rfl, rfl⟩ kh (by decide) (mk10 kh) rfl hSt hTb hP hS rfl hl.1 rfl (Nat.le_of_ble_eq_true rfl) dX10_foundBehind_18 ⟨Nat.le_refl 0, Nat.le_refl 0⟩ (fun rr_ M_3 H locs hq hP hS => ?_)
  obtain ⟨r_4, rfl, hw⟩ := hq
  refine lv_istore_n (lv' := [(2, .int r_4), (0, .ref (G.1 + h)), (1, .int a1)]) hx hb dX10_foundBehind_21 rfl hl (by decide) rfl (fun ls hl => ?_)
  refine lv_aload_n hx hb dX10_foundBehind_22 rfl (lv_at hl 1 rfl) ?_
  refine lv_aload_n hx hb dX10_foundBehind_23 rfl (lv_at hl 1 rfl) ?_
  refine mw_get (ci := 10) (v := .ref (G.1 + (h + 3))) (C := RX10) (T := TX10) (N := 25) hx hb ht inX10 hown hSt hP kh (by decide) (mk10 kh) rfl 2 (by decide) (ht _ wf_RX10_16) rfl rfl dX10_foundBehind_24 ?_
  refine lv_aload_n hx hb dX10_foundBehind_27 rfl (lv_at hl 1 rfl) ?_
  refine mw_get (ci := 10) (v := .ref (G.1 + (h + 1))) (C := RX10) (T := TX10) (N := 25) hx hb ht inX10 hown hSt hP kh (by decide) (mk10 kh) rfl 0 (by decide) (ht _ wf_RX10_7) rfl rfl dX10_foundBehind_28 ?_
  refine mw_V (As := [.ref (G.1 + (h + 3)), .ref (G.1 + (h + 1))]) (rest := []) (T := TX10) (N := 25) (n := 2) ⟨hx, hb, hml, hown, hts⟩ (so_X10_moveAll l G h (h + 3) (h + 1) M_3 _ hw) wm_RX10_188 wi_yX10_moveAll wv_yX10_moveAll wn_RX10 wc_yX10_moveAll (by decide) ⟨Nat.le_of_ble_eq_true rfl, Nat.le_of_ble_eq_true rfl⟩ ⟨rfl, rfl⟩ kh (by decide) (mk10 kh) rfl hSt hTb hP hS rfl hl.1 rfl (Nat.le_of_ble_eq_true rfl) dX10_foundBehind_31 ⟨Nat.le_refl 0, Nat.le_refl 0⟩ (fun rr_ M_5 H locs hq hP hS => ?_)
  obtain ⟨rfl, hw⟩ := hq
  refine lv_iload_n hx hb dX10_foundBehind_34 rfl (lv_at hl 0 rfl) ?_
  exact W.iret hx hb hr (mw_end hP hSt hTb hS ⟨_, rfl, hw⟩) hS.2.2 dX10_foundBehind_35
def wp_X10_saved (h : Nat) (M : Mem) (Q : Int32 → Mem → Prop) : Prop :=
  kdT h = 10 ∧ (wp_X10_foundBehind h 60 M (fun r_2 M_1 => Q r_2 M_1))
set_option maxHeartbeats 4000000 in
set_option maxRecDepth 100000 in
theorem so_X10_saved (l : Launch) (G : Gm) (h : Nat) (M : Mem) (Q : Int32 → Mem → Prop) (hw : wp_X10_saved h M Q) : Ct l G yX10_saved cX10_saved 1 (some .int) ({ frames := 8, cells := 0, slots := 0, locals := 188 } : Room) [.ref (G.1 + h)] M (Qi Q) := by
  unfold wp_X10_saved at hw
  obtain ⟨kh, hw⟩ := hw
  refine ct_of (by decide) (Nat.le_of_ble_eq_true rfl) ?_
  intro p e s m below meth c E_ ls H hl hP hS
  obtain ⟨hx, hb, hml, hown, hts, ht, hr, hlocks, hSt, hTb⟩ := E_
  have hl : lv_has ls 1 [(0, .ref (G.1 + h))] := hl
  refine lv_aload_n hx hb dX10_saved_0 rfl (lv_at hl 0 rfl) ?_
  refine lv_bipush (v := 60) hx hb dX10_saved_1 (by decide) ?_
  refine mw_V (As := [.int 60]) (rest := []) (T := TX10) (N := 25) (n := 1) ⟨hx, hb, hml, hown, hts⟩ (so_X10_foundBehind l G h 60 M _ hw) wm_RX10_205 wi_yX10_foundBehind wv_yX10_foundBehind wn_RX10 wc_yX10_foundBehind (by decide) ⟨Nat.le_of_ble_eq_true rfl, Nat.le_of_ble_eq_true rfl⟩ ⟨rfl, rfl⟩ kh (by decide) (mk10 kh) rfl hSt hTb hP hS rfl hl.1 rfl (Nat.le_of_ble_eq_true rfl) dX10_saved_3 ⟨Nat.le_refl 0, Nat.le_refl 0⟩ (fun rr_ M_1 H locs hq hP hS => ?_)
  obtain ⟨r_2, rfl, hw⟩ := hq
  exact W.iret hx hb hr (mw_end hP hSt hTb hS ⟨_, rfl, hw⟩) hS.2.2 dX10_saved_6
def b_X10_add_101 (h : Nat) (Q : Int32 → Mem → Prop) (K38 : Int32 → Int32 → Mem → Prop) (v1 : Int32) (v2 : Int32) (v3 : Int32) (v4 : Int32) (v5 : Int32) (M : Mem) : Prop :=
  ∀ x_1 : Int32, x_1 = v5 + 1 → K38 v4 x_1 M
def b_X10_add_99 (h : Nat) (Q : Int32 → Mem → Prop) (K38 : Int32 → Int32 → Mem → Prop) (v1 : Int32) (v2 : Int32) (v3 : Int32) (v5 : Int32) (s0 : Int32) (M : Mem) : Prop :=
  b_X10_add_101 h Q K38 v1 v2 v3 s0 v5 M
def b_X10_add_69 (h : Nat) (Q : Int32 → Mem → Prop) (K38 : Int32 → Int32 → Mem → Prop) (v1 : Int32) (v2 : Int32) (v3 : Int32) (v4 : Int32) (v5 : Int32) (M : Mem) : Prop :=
  wp_X10_gets h v1 4 (v3 ||| v5) M (fun M_2 => wp_X10_foundBehind h v2 M_2 (fun r_4 M_3 => (¬ ((isr r_4 v1) &&& 1) = 1 → b_X10_add_99 h Q K38 v1 v2 v3 v5 v4 M_3) ∧ (((isr r_4 v1) &&& 1) = 1 → b_X10_add_99 h Q K38 v1 v2 v3 v5 v5 M_3)))
def B_X10_add_38 (h : Nat) (Q : Int32 → Mem → Prop) (v1 : Int32) (v2 : Int32) (v3 : Int32) (K38 : Int32 → Int32 → Mem → Prop) (v4 : Int32) (v5 : Int32) (M : Mem) : Prop :=
  ((ish 1 (M (h + 1) 3)) ≤ v5 → wp_X10_gets h v1 4 v3 M (fun M_8 => (0 ≤ v4 → Q v4 M_8) ∧ (¬ 0 ≤ v4 → wp_X10_errs h (-1000000002) M_8 (fun r_11 M_10 => Q r_11 M_10)))) ∧ (¬ (ish 1 (M (h + 1) 3)) ≤ v5 → (v4 < 0 → b_X10_add_69 h Q K38 v1 v2 v3 v4 v5 M) ∧ (¬ v4 < 0 → wp_X10_bits v5 M (fun r_14 M_13 => wp_X10_bits v4 M_13 (fun r_16 M_15 => (r_16 ≤ r_14 → b_X10_add_101 h Q K38 v1 v2 v3 v4 v5 M_15) ∧ (¬ r_16 ≤ r_14 → b_X10_add_69 h Q K38 v1 v2 v3 v4 v5 M_15)))))
def l_X10_add_38 (h : Nat) (Q : Int32 → Mem → Prop) (v1 : Int32) (v2 : Int32) (v3 : Int32) : Nat → Int32 → Int32 → Mem → Prop
  | 0 => fun _ _ _ => False
  | n + 1 => B_X10_add_38 h Q v1 v2 v3 (l_X10_add_38 h Q v1 v2 v3 n)
def b_X10_add_18 (h : Nat) (Q : Int32 → Mem → Prop) (M : Mem) : Prop :=
  wp_X10_errs h (-1000000001) M (fun r_19 M_18 => Q r_19 M_18)
def wp_X10_add (h : Nat) (a1 : Int32) (a2 : Int32) (M : Mem) (Q : Int32 → Mem → Prop) : Prop :=
  kdT h = 10 ∧ (wp_X10_isSheep h a1 M (fun r_21 M_20 => (r_21 = 0 → b_X10_add_18 h Q M_20) ∧ (¬ r_21 = 0 → wp_X10_in a2 0 20 M_20 (fun r_24 M_23 => (¬ r_24 = 0 → wp_X10_its h a1 4 M_23 (fun r_27 M_26 => ∃ n, l_X10_add_38 h Q a1 a2 r_27 n (-1) 0 M_26)) ∧ (r_24 = 0 → b_X10_add_18 h Q M_23)))))
set_option maxHeartbeats 4000000 in
set_option maxRecDepth 100000 in
theorem so_X10_add (l : Launch) (G : Gm) (h : Nat) (a1 : Int32) (a2 : Int32) (M : Mem) (Q : Int32 → Mem → Prop) (hw : wp_X10_add h a1 a2 M Q) : Ct l G yX10_add cX10_add 6 (some .int) ({ frames := 8, cells := 0, slots := 0, locals := 188 } : Room) [.ref (G.1 + h), .int a1, .int a2] M (Qi Q) := by
  unfold wp_X10_add at hw
  obtain ⟨kh, hw⟩ := hw
  refine ct_of (by decide) (Nat.le_of_ble_eq_true rfl) ?_
  intro p e s m below meth c E_ ls H hl hP hS
  obtain ⟨hx, hb, hml, hown, hts, ht, hr, hlocks, hSt, hTb⟩ := E_
  have hl : lv_has ls 6 [(0, .ref (G.1 + h)), (1, .int a1), (2, .int a2)] := hl
  have L_38 : ∀ (v1 : Int32) (v2 : Int32) (v3 : Int32), ∀ (n38 : Nat) (v4 : Int32) (v5 : Int32) (M : Mem) (H : Heap) (locs : List Loc) (ls : Array Slot), l_X10_add_38 h Q v1 v2 v3 n38 v4 v5 M → va_P G.2.1 clsA (wl G M) H → va_S (inW G) s.heap H locs → lv_has ls 6 [(0, .ref (G.1 + h)), (1, .int v1), (2, .int v2), (3, .int v3), (4, .int v4), (5, .int v5)] → W p l e ({ frames := 8, cells := 0, slots := 0, locals := 188 } : Room) s m ([.ref (G.1 + h), .int a1, .int a2] : List Value).toArray below meth c H locs 0 0 (MQ below (Pq G (Qi Q)) ([.ref (G.1 + h), .int a1, .int a2] : List Value).toArray s 0 0 (inW G)) (F0 m 38 ls []) := by
    intro v1 v2 v3  n38
    induction n38 with
    | zero => intro v4 v5 M H locs ls  hw hP hS hl; exact False.elim hw
    | succ n38 ih38 =>
      have J_101 : ∀ (v4 : Int32) (v5 : Int32) (M : Mem) (H : Heap) (locs : List Loc) (ls : Array Slot), b_X10_add_101 h Q (l_X10_add_38 h Q v1 v2 v3 n38) v1 v2 v3 v4 v5 M → va_P G.2.1 clsA (wl G M) H → va_S (inW G) s.heap H locs → lv_has ls 6 [(0, .ref (G.1 + h)), (1, .int v1), (2, .int v2), (3, .int v3), (4, .int v4), (5, .int v5)] → W p l e ({ frames := 8, cells := 0, slots := 0, locals := 188 } : Room) s m ([.ref (G.1 + h), .int a1, .int a2] : List Value).toArray below meth c H locs 0 0 (MQ below (Pq G (Qi Q)) ([.ref (G.1 + h), .int a1, .int a2] : List Value).toArray s 0 0 (inW G)) (F0 m 101 ls []) := by
        intro v4 v5 M H locs ls  hw hP hS hl
        unfold b_X10_add_101 at hw
        obtain ⟨x_1, ex_1⟩ : ∃ z : Int32, z = v5 + 1 := ⟨_, rfl⟩
        have hw := hw x_1 ex_1
        refine lv_iinc (v := x_1) (lv' := [(5, .int x_1), (0, .ref (G.1 + h)), (1, .int v1), (2, .int v2), (3, .int v3), (4, .int v4)]) hx hb dX10_add_101 hl (k := 5) rfl (by rw [ex_1]; rfl) (by decide) rfl (fun ls hl => ?_)
        refine lv_goto (tgt := 38) hx hb dX10_add_104 (by decide) ?_
        exact ih38 v4 x_1 M _ _ _ hw hP hS (lv_sub hl [1, 2, 3, 4, 5, 0] rfl)
      have J_99 : ∀ (v5 : Int32) (s0 : Int32) (M : Mem) (H : Heap) (locs : List Loc) (ls : Array Slot), b_X10_add_99 h Q (l_X10_add_38 h Q v1 v2 v3 n38) v1 v2 v3 v5 s0 M → va_P G.2.1 clsA (wl G M) H → va_S (inW G) s.heap H locs → lv_has ls 6 [(0, .ref (G.1 + h)), (1, .int v1), (2, .int v2), (3, .int v3), (5, .int v5)] → W p l e ({ frames := 8, cells := 0, slots := 0, locals := 188 } : Room) s m ([.ref (G.1 + h), .int a1, .int a2] : List Value).toArray below meth c H locs 0 0 (MQ below (Pq G (Qi Q)) ([.ref (G.1 + h), .int a1, .int a2] : List Value).toArray s 0 0 (inW G)) (F0 m 99 ls [.int s0]) := by
        intro v5 s0 M H locs ls  hw hP hS hl
        unfold b_X10_add_99 at hw
        refine lv_istore (lv' := [(4, .int s0), (0, .ref (G.1 + h)), (1, .int v1), (2, .int v2), (3, .int v3), (5, .int v5)]) hx hb dX10_add_99 hl (by decide) rfl (fun ls hl => ?_)
        exact J_101 s0 v5 M _ _ _ hw hP hS (lv_sub hl [1, 2, 3, 4, 0, 5] rfl)
      have J_69 : ∀ (v4 : Int32) (v5 : Int32) (M : Mem) (H : Heap) (locs : List Loc) (ls : Array Slot), b_X10_add_69 h Q (l_X10_add_38 h Q v1 v2 v3 n38) v1 v2 v3 v4 v5 M → va_P G.2.1 clsA (wl G M) H → va_S (inW G) s.heap H locs → lv_has ls 6 [(0, .ref (G.1 + h)), (1, .int v1), (2, .int v2), (3, .int v3), (4, .int v4), (5, .int v5)] → W p l e ({ frames := 8, cells := 0, slots := 0, locals := 188 } : Room) s m ([.ref (G.1 + h), .int a1, .int a2] : List Value).toArray below meth c H locs 0 0 (MQ below (Pq G (Qi Q)) ([.ref (G.1 + h), .int a1, .int a2] : List Value).toArray s 0 0 (inW G)) (F0 m 69 ls []) := by
        intro v4 v5 M H locs ls  hw hP hS hl
        unfold b_X10_add_69 at hw
        refine lv_aload_n hx hb dX10_add_69 rfl (lv_at hl 0 rfl) ?_
        refine lv_iload_n hx hb dX10_add_70 rfl (lv_at hl 1 rfl) ?_
        refine lv_iconst (v := 4) hx hb dX10_add_71 (by decide) ?_
        refine lv_iload_n hx hb dX10_add_72 rfl (lv_at hl 3 rfl) ?_
        refine lv_iload hx hb dX10_add_73 (lv_at hl 5 rfl) ?_
        refine lv_ior hx hb dX10_add_75 ?_
        refine mw_V (As := [.int v1, .int 4, .int (v3 ||| v5)]) (rest := []) (T := TX10) (N := 25) (n := 3) ⟨hx, hb, hml, hown, hts⟩ (so_X10_gets l G h v1 4 (v3 ||| v5) M _ hw) wm_RX10_87 wi_yX10_gets wv_yX10_gets wn_RX10 wc_yX10_gets (by decide) ⟨Nat.le_of_ble_eq_true rfl, Nat.le_of_ble_eq_true rfl⟩ ⟨rfl, rfl⟩ kh (by decide) (mk10 kh) rfl hSt hTb hP hS rfl hl.1 rfl (Nat.le_of_ble_eq_true rfl) dX10_add_76 ⟨Nat.le_refl 0, Nat.le_refl 0⟩ (fun rr_ M_2 H locs hq hP hS => ?_)
        obtain ⟨rfl, hw⟩ := hq
        refine lv_aload_n hx hb dX10_add_79 rfl (lv_at hl 0 rfl) ?_
        refine lv_iload_n hx hb dX10_add_80 rfl (lv_at hl 2 rfl) ?_
        refine mw_V (As := [.int v2]) (rest := []) (T := TX10) (N := 25) (n := 1) ⟨hx, hb, hml, hown, hts⟩ (so_X10_foundBehind l G h v2 M_2 _ hw) wm_RX10_205 wi_yX10_foundBehind wv_yX10_foundBehind wn_RX10 wc_yX10_foundBehind (by decide) ⟨Nat.le_of_ble_eq_true rfl, Nat.le_of_ble_eq_true rfl⟩ ⟨rfl, rfl⟩ kh (by decide) (mk10 kh) rfl hSt hTb hP hS rfl hl.1 rfl (Nat.le_of_ble_eq_true rfl) dX10_add_81 ⟨Nat.le_refl 0, Nat.le_refl 0⟩ (fun rr_ M_3 H locs hq hP hS => ?_)
        obtain ⟨r_4, rfl, hw⟩ := hq
        refine lv_iload_n hx hb dX10_add_84 rfl (lv_at hl 1 rfl) ?_
        refine lv_ishr hx hb dX10_add_85 ?_
        refine lv_iconst (v := 1) hx hb dX10_add_86 (by decide) ?_
        refine lv_iand hx hb dX10_add_87 ?_
        refine lv_iconst (v := 1) hx hb dX10_add_88 (by decide) ?_
        refine lv_icmp_ne (tgt := 97) hx hb dX10_add_89 (by decide) (fun c_5 => ?_) (fun c_5 => ?_)
        · have hw := hw.1 c_5
          refine lv_iload hx hb dX10_add_97 (lv_at hl 4 rfl) ?_
          exact J_99 v5 v4 M_3 _ _ _ hw hP hS (lv_sub hl [0, 1, 2, 3, 5] rfl)
        · have hw := hw.2 c_5
          refine lv_iload hx hb dX10_add_92 (lv_at hl 5 rfl) ?_
          refine lv_goto (tgt := 99) hx hb dX10_add_94 (by decide) ?_
          exact J_99 v5 v5 M_3 _ _ _ hw hP hS (lv_sub hl [0, 1, 2, 3, 5] rfl)
      intro v4 v5 M H locs ls  hw hP hS hl
      have hw : B_X10_add_38 h Q v1 v2 v3 (l_X10_add_38 h Q v1 v2 v3 n38) v4 v5 M := hw
      unfold B_X10_add_38 at hw
      refine lv_iload hx hb dX10_add_38 (lv_at hl 5 rfl) ?_
      refine lv_iconst (v := 1) hx hb dX10_add_40 (by decide) ?_
      refine lv_aload_n hx hb dX10_add_41 rfl (lv_at hl 0 rfl) ?_
      refine mw_get (ci := 10) (v := .ref (G.1 + (h + 1))) (C := RX10) (T := TX10) (N := 25) hx hb ht inX10 hown hSt hP kh (by decide) (mk10 kh) rfl 0 (by decide) (ht _ wf_RX10_7) rfl rfl dX10_add_42 ?_
      refine lv_iconst (v := 3) hx hb dX10_add_45 (by decide) ?_
      refine mw_ialdc hx hb hSt hP (ks10_0 kh) (ln10_0 kh) 3 (by decide) dX10_add_46 ?_
      refine lv_ishl hx hb dX10_add_47 ?_
      refine lv_icmp_ge (tgt := 107) hx hb dX10_add_48 (by decide) (fun c_7 => ?_) (fun c_7 => ?_)
      · have hw := hw.1 c_7
        refine lv_aload_n hx hb dX10_add_107 rfl (lv_at hl 0 rfl) ?_
        refine lv_iload_n hx hb dX10_add_108 rfl (lv_at hl 1 rfl) ?_
        refine lv_iconst (v := 4) hx hb dX10_add_109 (by decide) ?_
        refine lv_iload_n hx hb dX10_add_110 rfl (lv_at hl 3 rfl) ?_
        refine mw_V (As := [.int v1, .int 4, .int v3]) (rest := []) (T := TX10) (N := 25) (n := 3) ⟨hx, hb, hml, hown, hts⟩ (so_X10_gets l G h v1 4 v3 M _ hw) wm_RX10_87 wi_yX10_gets wv_yX10_gets wn_RX10 wc_yX10_gets (by decide) ⟨Nat.le_of_ble_eq_true rfl, Nat.le_of_ble_eq_true rfl⟩ ⟨rfl, rfl⟩ kh (by decide) (mk10 kh) rfl hSt hTb hP hS rfl hl.1 rfl (Nat.le_of_ble_eq_true rfl) dX10_add_111 ⟨Nat.le_refl 0, Nat.le_refl 0⟩ (fun rr_ M_8 H locs hq hP hS => ?_)
        obtain ⟨rfl, hw⟩ := hq
        refine lv_iload hx hb dX10_add_114 (lv_at hl 4 rfl) ?_
        refine lv_if_ge (tgt := 128) hx hb dX10_add_116 (by decide) (fun c_9 => ?_) (fun c_9 => ?_)
        · have hw := hw.1 c_9
          refine lv_iload hx hb dX10_add_128 (lv_at hl 4 rfl) ?_
          exact W.iret hx hb hr (mw_end hP hSt hTb hS ⟨_, rfl, hw⟩) hS.2.2 dX10_add_130
        · have hw := hw.2 c_9
          refine lv_aload_n hx hb dX10_add_119 rfl (lv_at hl 0 rfl) ?_
          refine lv_ldc (v := (-1000000002)) hx hb hown (ht _ wk_RX10_204) dX10_add_120 ?_
          refine mw_V (As := [.int (-1000000002)]) (rest := []) (T := TX10) (N := 25) (n := 1) ⟨hx, hb, hml, hown, hts⟩ (so_X10_errs l G h (-1000000002) M_8 _ hw) wm_RX10_63 wi_yX10_errs wv_yX10_errs wn_RX10 wc_yX10_errs (by decide) ⟨Nat.le_of_ble_eq_true rfl, Nat.le_of_ble_eq_true rfl⟩ ⟨rfl, rfl⟩ kh (by decide) (mk10 kh) rfl hSt hTb hP hS rfl hl.1 rfl (Nat.le_of_ble_eq_true rfl) dX10_add_122 ⟨Nat.le_refl 0, Nat.le_refl 0⟩ (fun rr_ M_10 H locs hq hP hS => ?_)
          obtain ⟨r_11, rfl, hw⟩ := hq
          refine lv_goto (tgt := 130) hx hb dX10_add_125 (by decide) ?_
          exact W.iret hx hb hr (mw_end hP hSt hTb hS ⟨_, rfl, hw⟩) hS.2.2 dX10_add_130
      · have hw := hw.2 c_7
        refine lv_iload hx hb dX10_add_51 (lv_at hl 4 rfl) ?_
        refine lv_if_lt (tgt := 69) hx hb dX10_add_53 (by decide) (fun c_12 => ?_) (fun c_12 => ?_)
        · have hw := hw.1 c_12
          exact J_69 v4 v5 M _ _ _ hw hP hS (lv_sub hl [0, 1, 2, 3, 4, 5] rfl)
        · have hw := hw.2 c_12
          refine lv_iload hx hb dX10_add_56 (lv_at hl 5 rfl) ?_
          refine mw_Sx (As := [.int v5]) (rest := []) (n := 1) ⟨hx, hb, hml, hown, hts⟩ (so_X10_bits l G v5 M _ hw) wm_RX10_173 wt_yX10_bits wn_RX10 wc_yX10_bits (by decide) ⟨Nat.le_of_ble_eq_true rfl, Nat.le_of_ble_eq_true rfl⟩ ⟨rfl, rfl⟩ hSt hTb hP hS rfl hl.1 rfl (Nat.le_of_ble_eq_true rfl) dX10_add_58 ⟨Nat.le_refl 0, Nat.le_refl 0⟩ (fun rr_ M_13 H locs hq hP hS => ?_)
          obtain ⟨r_14, rfl, hw⟩ := hq
          refine lv_iload hx hb dX10_add_61 (lv_at hl 4 rfl) ?_
          refine mw_Sx (As := [.int v4]) (rest := [.int r_14]) (n := 1) ⟨hx, hb, hml, hown, hts⟩ (so_X10_bits l G v4 M_13 _ hw) wm_RX10_173 wt_yX10_bits wn_RX10 wc_yX10_bits (by decide) ⟨Nat.le_of_ble_eq_true rfl, Nat.le_of_ble_eq_true rfl⟩ ⟨rfl, rfl⟩ hSt hTb hP hS rfl hl.1 rfl (Nat.le_of_ble_eq_true rfl) dX10_add_63 ⟨Nat.le_refl 0, Nat.le_refl 0⟩ (fun rr_ M_15 H locs hq hP hS => ?_)
          obtain ⟨r_16, rfl, hw⟩ := hq
          refine lv_icmp_ge (tgt := 101) hx hb dX10_add_66 (by decide) (fun c_17 => ?_) (fun c_17 => ?_)
          · have hw := hw.1 c_17
            exact J_101 v4 v5 M_15 _ _ _ hw hP hS (lv_sub hl [0, 1, 2, 3, 4, 5] rfl)
          · have hw := hw.2 c_17
            exact J_69 v4 v5 M_15 _ _ _ hw hP hS (lv_sub hl [0, 1, 2, 3, 4, 5] rfl)
  have J_18 : ∀  (M : Mem) (H : Heap) (locs : List Loc) (ls : Array Slot), b_X10_add_18 h Q M → va_P G.2.1 clsA (wl G M) H → va_S (inW G) s.heap H locs → lv_has ls 6 [(0, .ref (G.1 + h))] → W p l e ({ frames := 8, cells := 0, slots := 0, locals := 188 } : Room) s m ([.ref (G.1 + h), .int a1, .int a2] : List Value).toArray below meth c H locs 0 0 (MQ below (Pq G (Qi Q)) ([.ref (G.1 + h), .int a1, .int a2] : List Value).toArray s 0 0 (inW G)) (F0 m 18 ls []) := by
    intro  M H locs ls  hw hP hS hl
    unfold b_X10_add_18 at hw
    refine lv_aload_n hx hb dX10_add_18 rfl (lv_at hl 0 rfl) ?_
    refine lv_ldc (v := (-1000000001)) hx hb hown (ht _ wk_RX10_62) dX10_add_19 ?_
    refine mw_V (As := [.int (-1000000001)]) (rest := []) (T := TX10) (N := 25) (n := 1) ⟨hx, hb, hml, hown, hts⟩ (so_X10_errs l G h (-1000000001) M _ hw) wm_RX10_63 wi_yX10_errs wv_yX10_errs wn_RX10 wc_yX10_errs (by decide) ⟨Nat.le_of_ble_eq_true rfl, Nat.le_of_ble_eq_true rfl⟩ ⟨rfl, rfl⟩ kh (by decide) (mk10 kh) rfl hSt hTb hP hS rfl hl.1 rfl (Nat.le_of_ble_eq_true rfl) dX10_add_21 ⟨Nat.le_refl 0, Nat.le_refl 0⟩ (fun rr_ M_18 H locs hq hP hS => ?_)
    obtain ⟨r_19, rfl, hw⟩ := hq
    exact W.iret hx hb hr (mw_end hP hSt hTb hS ⟨_, rfl, hw⟩) hS.2.2 dX10_add_24
  refine lv_aload_n hx hb dX10_add_0 rfl (lv_at hl 0 rfl) ?_
  refine lv_iload_n hx hb dX10_add_1 rfl (lv_at hl 1 rfl) ?_
  refine mw_V (As := [.int a1]) (rest := []) (T := TX10) (N := 25) (n := 1) ⟨hx, hb, hml, hown, hts⟩ (so_X10_isSheep l G h a1 M _ hw) wm_RX10_91 wi_yX10_isSheep wv_yX10_isSheep wn_RX10 wc_yX10_isSheep (by decide) ⟨Nat.le_of_ble_eq_true rfl, Nat.le_of_ble_eq_true rfl⟩ ⟨rfl, rfl⟩ kh (by decide) (mk10 kh) rfl hSt hTb hP hS rfl hl.1 rfl (Nat.le_of_ble_eq_true rfl) dX10_add_2 ⟨Nat.le_refl 0, Nat.le_refl 0⟩ (fun rr_ M_20 H locs hq hP hS => ?_)
  obtain ⟨r_21, rfl, hw⟩ := hq
  refine lv_if_eq (tgt := 18) hx hb dX10_add_5 (by decide) (fun c_22 => ?_) (fun c_22 => ?_)
  · have hw := hw.1 c_22
    exact J_18 M_20 _ _ _ hw hP hS (lv_sub hl [0] rfl)
  · have hw := hw.2 c_22
    refine lv_iload_n hx hb dX10_add_8 rfl (lv_at hl 2 rfl) ?_
    refine lv_iconst (v := 0) hx hb dX10_add_9 (by decide) ?_
    refine lv_bipush (v := 20) hx hb dX10_add_10 (by decide) ?_
    refine mw_Sx (As := [.int a2, .int 0, .int 20]) (rest := []) (n := 3) ⟨hx, hb, hml, hown, hts⟩ (so_X10_in l G a2 0 20 M_20 _ hw) wm_RX10_50 wt_yX10_in wn_RX10 wc_yX10_in (by decide) ⟨Nat.le_of_ble_eq_true rfl, Nat.le_of_ble_eq_true rfl⟩ ⟨rfl, rfl⟩ hSt hTb hP hS rfl hl.1 rfl (Nat.le_of_ble_eq_true rfl) dX10_add_12 ⟨Nat.le_refl 0, Nat.le_refl 0⟩ (fun rr_ M_23 H locs hq hP hS => ?_)
    obtain ⟨r_24, rfl, hw⟩ := hq
    refine lv_if_ne (tgt := 25) hx hb dX10_add_15 (by decide) (fun c_25 => ?_) (fun c_25 => ?_)
    · have hw := hw.1 c_25
      refine lv_aload_n hx hb dX10_add_25 rfl (lv_at hl 0 rfl) ?_
      refine lv_iload_n hx hb dX10_add_26 rfl (lv_at hl 1 rfl) ?_
      refine lv_iconst (v := 4) hx hb dX10_add_27 (by decide) ?_
      refine mw_V (As := [.int a1, .int 4]) (rest := []) (T := TX10) (N := 25) (n := 2) ⟨hx, hb, hml, hown, hts⟩ (so_X10_its l G h a1 4 M_23 _ hw) wm_RX10_67 wi_yX10_its wv_yX10_its wn_RX10 wc_yX10_its (by decide) ⟨Nat.le_of_ble_eq_true rfl, Nat.le_of_ble_eq_true rfl⟩ ⟨rfl, rfl⟩ kh (by decide) (mk10 kh) rfl hSt hTb hP hS rfl hl.1 rfl (Nat.le_of_ble_eq_true rfl) dX10_add_28 ⟨Nat.le_refl 0, Nat.le_refl 0⟩ (fun rr_ M_26 H locs hq hP hS => ?_)
      obtain ⟨r_27, rfl, hw⟩ := hq
      refine lv_istore_n (lv' := [(3, .int r_27), (0, .ref (G.1 + h)), (1, .int a1), (2, .int a2)]) hx hb dX10_add_31 rfl hl (by decide) rfl (fun ls hl => ?_)
      refine lv_iconst (v := (-1)) hx hb dX10_add_32 (by decide) ?_
      refine lv_istore (lv' := [(4, .int (-1)), (3, .int r_27), (0, .ref (G.1 + h)), (1, .int a1), (2, .int a2)]) hx hb dX10_add_33 hl (by decide) rfl (fun ls hl => ?_)
      refine lv_iconst (v := 0) hx hb dX10_add_35 (by decide) ?_
      refine lv_istore (lv' := [(5, .int 0), (4, .int (-1)), (3, .int r_27), (0, .ref (G.1 + h)), (1, .int a1), (2, .int a2)]) hx hb dX10_add_36 hl (by decide) rfl (fun ls hl => ?_)
      obtain ⟨n_, hw⟩ := hw
      exact L_38 a1 a2 r_27 n_ (-1) 0 M_26 _ _ _ hw hP hS (lv_sub hl [3, 4, 5, 2, 1, 0] rfl)
    · have hw := hw.2 c_25
      exact J_18 M_23 _ _ _ hw hP hS (lv_sub hl [0] rfl)
def b_X10_start_110 (h : Nat) (Q : Int32 → Mem → Prop) (K50 : Int32 → Int32 → Int32 → Mem → Prop) (v1 : Int32) (v2 : Int32) (v3 : Int32) (v4 : Int32) (v5 : Int32) (v7 : Int32) (s0 : Int32) (M : Mem) : Prop :=
  ∀ x_1 : Int32, x_1 = v7 + 1 → K50 v5 s0 x_1 M
def b_X10_start_94 (h : Nat) (Q : Int32 → Mem → Prop) (K50 : Int32 → Int32 → Int32 → Mem → Prop) (v1 : Int32) (v2 : Int32) (v3 : Int32) (v4 : Int32) (v6 : Int32) (v7 : Int32) (v8 : Int32) (s0 : Int32) (M : Mem) : Prop :=
  (v8 ≤ v6 → b_X10_start_110 h Q K50 v1 v2 v3 v4 s0 v7 v6 M) ∧ (¬ v8 ≤ v6 → b_X10_start_110 h Q K50 v1 v2 v3 v4 s0 v7 v8 M)
def B_X10_start_50 (h : Nat) (Q : Int32 → Mem → Prop) (v1 : Int32) (v2 : Int32) (v3 : Int32) (v4 : Int32) (K50 : Int32 → Int32 → Int32 → Mem → Prop) (v5 : Int32) (v6 : Int32) (v7 : Int32) (M : Mem) : Prop :=
  (10 ≤ v7 → vp_in (18 + (2 * v1)) 242 ∧ ∀ M_5, M_5 = mu M (h + 1) (18 + (2 * v1)).toNatClampNeg v4 → (¬ v3 = 0 → Q v6 M_5) ∧ (v3 = 0 → Q v5 M_5)) ∧ (¬ 10 ≤ v7 → vp_in (18 + (2 * v1)) 242 ∧ ∀ M_8, M_8 = mu M (h + 1) (18 + (2 * v1)).toNatClampNeg v7 → wp_X10_foundBehind h v2 M_8 (fun r_10 M_9 => wp_X10_bits r_10 M_9 (fun r_12 M_11 => (r_12 ≤ v6 → b_X10_start_94 h Q K50 v1 v2 v3 v4 v6 v7 r_12 v5 M_11) ∧ (¬ r_12 ≤ v6 → b_X10_start_94 h Q K50 v1 v2 v3 v4 v6 v7 r_12 v7 M_11))))
def l_X10_start_50 (h : Nat) (Q : Int32 → Mem → Prop) (v1 : Int32) (v2 : Int32) (v3 : Int32) (v4 : Int32) : Nat → Int32 → Int32 → Int32 → Mem → Prop
  | 0 => fun _ _ _ _ => False
  | n + 1 => B_X10_start_50 h Q v1 v2 v3 v4 (l_X10_start_50 h Q v1 v2 v3 v4 n)
def b_X10_start_27 (h : Nat) (Q : Int32 → Mem → Prop) (M : Mem) : Prop :=
  wp_X10_errs h (-1000000001) M (fun r_15 M_14 => Q r_15 M_14)
def wp_X10_start (h : Nat) (a1 : Int32) (a2 : Int32) (a3 : Int32) (M : Mem) (Q : Int32 → Mem → Prop) : Prop :=
  kdT h = 10 ∧ (wp_X10_isSeeker h a1 M (fun r_17 M_16 => (r_17 = 0 → b_X10_start_27 h Q M_16) ∧ (¬ r_17 = 0 → wp_X10_in a2 0 20 M_16 (fun r_20 M_19 => (r_20 = 0 → b_X10_start_27 h Q M_19) ∧ (¬ r_20 = 0 → wp_X10_in a3 0 1 M_19 (fun r_23 M_22 => (¬ r_23 = 0 → wp_X10_at h a1 M_22 (fun r_26 M_25 => ∃ n, l_X10_start_50 h Q a1 a2 a3 r_26 n 0 (-1) 0 M_25)) ∧ (r_23 = 0 → b_X10_start_27 h Q M_22)))))))
set_option maxHeartbeats 4000000 in
set_option maxRecDepth 100000 in
theorem so_X10_start (l : Launch) (G : Gm) (h : Nat) (a1 : Int32) (a2 : Int32) (a3 : Int32) (M : Mem) (Q : Int32 → Mem → Prop) (hw : wp_X10_start h a1 a2 a3 M Q) : Ct l G yX10_start cX10_start 9 (some .int) ({ frames := 8, cells := 0, slots := 0, locals := 188 } : Room) [.ref (G.1 + h), .int a1, .int a2, .int a3] M (Qi Q) := by
  unfold wp_X10_start at hw
  obtain ⟨kh, hw⟩ := hw
  refine ct_of (by decide) (Nat.le_of_ble_eq_true rfl) ?_
  intro p e s m below meth c E_ ls H hl hP hS
  obtain ⟨hx, hb, hml, hown, hts, ht, hr, hlocks, hSt, hTb⟩ := E_
  have hl : lv_has ls 9 [(0, .ref (G.1 + h)), (1, .int a1), (2, .int a2), (3, .int a3)] := hl
  have L_50 : ∀ (v1 : Int32) (v2 : Int32) (v3 : Int32) (v4 : Int32), ∀ (n50 : Nat) (v5 : Int32) (v6 : Int32) (v7 : Int32) (M : Mem) (H : Heap) (locs : List Loc) (ls : Array Slot), l_X10_start_50 h Q v1 v2 v3 v4 n50 v5 v6 v7 M → va_P G.2.1 clsA (wl G M) H → va_S (inW G) s.heap H locs → lv_has ls 9 [(0, .ref (G.1 + h)), (1, .int v1), (2, .int v2), (3, .int v3), (4, .int v4), (5, .int v5), (6, .int v6), (7, .int v7)] → W p l e ({ frames := 8, cells := 0, slots := 0, locals := 188 } : Room) s m ([.ref (G.1 + h), .int a1, .int a2, .int a3] : List Value).toArray below meth c H locs 0 0 (MQ below (Pq G (Qi Q)) ([.ref (G.1 + h), .int a1, .int a2, .int a3] : List Value).toArray s 0 0 (inW G)) (F0 m 50 ls []) := by
    intro v1 v2 v3 v4  n50
    induction n50 with
    | zero => intro v5 v6 v7 M H locs ls  hw hP hS hl; exact False.elim hw
    | succ n50 ih50 =>
      have J_110 : ∀ (v5 : Int32) (v7 : Int32) (s0 : Int32) (M : Mem) (H : Heap) (locs : List Loc) (ls : Array Slot), b_X10_start_110 h Q (l_X10_start_50 h Q v1 v2 v3 v4 n50) v1 v2 v3 v4 v5 v7 s0 M → va_P G.2.1 clsA (wl G M) H → va_S (inW G) s.heap H locs → lv_has ls 9 [(0, .ref (G.1 + h)), (1, .int v1), (2, .int v2), (3, .int v3), (4, .int v4), (5, .int v5), (7, .int v7)] → W p l e ({ frames := 8, cells := 0, slots := 0, locals := 188 } : Room) s m ([.ref (G.1 + h), .int a1, .int a2, .int a3] : List Value).toArray below meth c H locs 0 0 (MQ below (Pq G (Qi Q)) ([.ref (G.1 + h), .int a1, .int a2, .int a3] : List Value).toArray s 0 0 (inW G)) (F0 m 110 ls [.int s0]) := by
        intro v5 v7 s0 M H locs ls  hw hP hS hl
        unfold b_X10_start_110 at hw
        refine lv_istore (lv' := [(6, .int s0), (0, .ref (G.1 + h)), (1, .int v1), (2, .int v2), (3, .int v3), (4, .int v4), (5, .int v5), (7, .int v7)]) hx hb dX10_start_110 hl (by decide) rfl (fun ls hl => ?_)
        obtain ⟨x_1, ex_1⟩ : ∃ z : Int32, z = v7 + 1 := ⟨_, rfl⟩
        have hw := hw x_1 ex_1
        refine lv_iinc (v := x_1) (lv' := [(7, .int x_1), (6, .int s0), (0, .ref (G.1 + h)), (1, .int v1), (2, .int v2), (3, .int v3), (4, .int v4), (5, .int v5)]) hx hb dX10_start_112 hl (k := 7) rfl (by rw [ex_1]; rfl) (by decide) rfl (fun ls hl => ?_)
        refine lv_goto (tgt := 50) hx hb dX10_start_115 (by decide) ?_
        exact ih50 v5 s0 x_1 M _ _ _ hw hP hS (lv_sub hl [2, 3, 4, 5, 6, 7, 1, 0] rfl)
      have J_94 : ∀ (v6 : Int32) (v7 : Int32) (v8 : Int32) (s0 : Int32) (M : Mem) (H : Heap) (locs : List Loc) (ls : Array Slot), b_X10_start_94 h Q (l_X10_start_50 h Q v1 v2 v3 v4 n50) v1 v2 v3 v4 v6 v7 v8 s0 M → va_P G.2.1 clsA (wl G M) H → va_S (inW G) s.heap H locs → lv_has ls 9 [(0, .ref (G.1 + h)), (1, .int v1), (2, .int v2), (3, .int v3), (4, .int v4), (6, .int v6), (7, .int v7), (8, .int v8)] → W p l e ({ frames := 8, cells := 0, slots := 0, locals := 188 } : Room) s m ([.ref (G.1 + h), .int a1, .int a2, .int a3] : List Value).toArray below meth c H locs 0 0 (MQ below (Pq G (Qi Q)) ([.ref (G.1 + h), .int a1, .int a2, .int a3] : List Value).toArray s 0 0 (inW G)) (F0 m 94 ls [.int s0]) := by
        intro v6 v7 v8 s0 M H locs ls  hw hP hS hl
        unfold b_X10_start_94 at hw
        refine lv_istore (lv' := [(5, .int s0), (0, .ref (G.1 + h)), (1, .int v1), (2, .int v2), (3, .int v3), (4, .int v4), (6, .int v6), (7, .int v7), (8, .int v8)]) hx hb dX10_start_94 hl (by decide) rfl (fun ls hl => ?_)
        refine lv_iload hx hb dX10_start_96 (lv_at hl 8 rfl) ?_
        refine lv_iload hx hb dX10_start_98 (lv_at hl 6 rfl) ?_
        refine lv_icmp_le (tgt := 108) hx hb dX10_start_100 (by decide) (fun c_2 => ?_) (fun c_2 => ?_)
        · have hw := hw.1 c_2
          refine lv_iload hx hb dX10_start_108 (lv_at hl 6 rfl) ?_
          exact J_110 s0 v7 v6 M _ _ _ hw hP hS (lv_sub hl [1, 2, 3, 4, 5, 0, 7] rfl)
        · have hw := hw.2 c_2
          refine lv_iload hx hb dX10_start_103 (lv_at hl 8 rfl) ?_
          refine lv_goto (tgt := 110) hx hb dX10_start_105 (by decide) ?_
          exact J_110 s0 v7 v8 M _ _ _ hw hP hS (lv_sub hl [1, 2, 3, 4, 5, 0, 7] rfl)
      intro v5 v6 v7 M H locs ls  hw hP hS hl
      have hw : B_X10_start_50 h Q v1 v2 v3 v4 (l_X10_start_50 h Q v1 v2 v3 v4 n50) v5 v6 v7 M := hw
      unfold B_X10_start_50 at hw
      refine lv_iload hx hb dX10_start_50 (lv_at hl 7 rfl) ?_
      refine lv_bipush (v := 10) hx hb dX10_start_52 (by decide) ?_
      refine lv_icmp_ge (tgt := 118) hx hb dX10_start_54 (by decide) (fun c_3 => ?_) (fun c_3 => ?_)
      · have hw := hw.1 c_3
        refine lv_aload_n hx hb dX10_start_118 rfl (lv_at hl 0 rfl) ?_
        refine mw_get (ci := 10) (v := .ref (G.1 + (h + 1))) (C := RX10) (T := TX10) (N := 25) hx hb ht inX10 hown hSt hP kh (by decide) (mk10 kh) rfl 0 (by decide) (ht _ wf_RX10_7) rfl rfl dX10_start_119 ?_
        refine lv_bipush (v := 18) hx hb dX10_start_122 (by decide) ?_
        refine lv_iconst (v := 2) hx hb dX10_start_124 (by decide) ?_
        refine lv_iload_n hx hb dX10_start_125 rfl (lv_at hl 1 rfl) ?_
        refine lv_imul hx hb dX10_start_126 ?_
        refine lv_iadd hx hb dX10_start_127 ?_
        refine lv_iload hx hb dX10_start_128 (lv_at hl 4 rfl) ?_
        obtain ⟨c_4, hw⟩ := hw
        refine mw_iast hx hb hSt hP hS (ks10_0 kh) (by rw [(ln10_0 kh)]; exact c_4) dX10_start_130 (fun M_5 H locs eM_5 hP hS => ?_)
        have hw := hw M_5 eM_5
        refine lv_iload_n hx hb dX10_start_131 rfl (lv_at hl 3 rfl) ?_
        refine lv_if_ne (tgt := 140) hx hb dX10_start_132 (by decide) (fun c_6 => ?_) (fun c_6 => ?_)
        · have hw := hw.1 c_6
          refine lv_iload hx hb dX10_start_140 (lv_at hl 6 rfl) ?_
          exact W.iret hx hb hr (mw_end hP hSt hTb hS ⟨_, rfl, hw⟩) hS.2.2 dX10_start_142
        · have hw := hw.2 c_6
          refine lv_iload hx hb dX10_start_135 (lv_at hl 5 rfl) ?_
          refine lv_goto (tgt := 142) hx hb dX10_start_137 (by decide) ?_
          exact W.iret hx hb hr (mw_end hP hSt hTb hS ⟨_, rfl, hw⟩) hS.2.2 dX10_start_142
      · have hw := hw.2 c_3
        refine lv_aload_n hx hb dX10_start_57 rfl (lv_at hl 0 rfl) ?_
        refine mw_get (ci := 10) (v := .ref (G.1 + (h + 1))) (C := RX10) (T := TX10) (N := 25) hx hb ht inX10 hown hSt hP kh (by decide) (mk10 kh) rfl 0 (by decide) (ht _ wf_RX10_7) rfl rfl dX10_start_58 ?_
        refine lv_bipush (v := 18) hx hb dX10_start_61 (by decide) ?_
        refine lv_iconst (v := 2) hx hb dX10_start_63 (by decide) ?_
        refine lv_iload_n hx hb dX10_start_64 rfl (lv_at hl 1 rfl) ?_
        refine lv_imul hx hb dX10_start_65 ?_
        refine lv_iadd hx hb dX10_start_66 ?_
        refine lv_iload hx hb dX10_start_67 (lv_at hl 7 rfl) ?_
        obtain ⟨c_7, hw⟩ := hw
        refine mw_iast hx hb hSt hP hS (ks10_0 kh) (by rw [(ln10_0 kh)]; exact c_7) dX10_start_69 (fun M_8 H locs eM_8 hP hS => ?_)
        have hw := hw M_8 eM_8
        refine lv_aload_n hx hb dX10_start_70 rfl (lv_at hl 0 rfl) ?_
        refine lv_iload_n hx hb dX10_start_71 rfl (lv_at hl 2 rfl) ?_
        refine mw_V (As := [.int v2]) (rest := []) (T := TX10) (N := 25) (n := 1) ⟨hx, hb, hml, hown, hts⟩ (so_X10_foundBehind l G h v2 M_8 _ hw) wm_RX10_205 wi_yX10_foundBehind wv_yX10_foundBehind wn_RX10 wc_yX10_foundBehind (by decide) ⟨Nat.le_of_ble_eq_true rfl, Nat.le_of_ble_eq_true rfl⟩ ⟨rfl, rfl⟩ kh (by decide) (mk10 kh) rfl hSt hTb hP hS rfl hl.1 rfl (Nat.le_of_ble_eq_true rfl) dX10_start_72 ⟨Nat.le_refl 0, Nat.le_refl 0⟩ (fun rr_ M_9 H locs hq hP hS => ?_)
        obtain ⟨r_10, rfl, hw⟩ := hq
        refine mw_Sx (As := [.int r_10]) (rest := []) (n := 1) ⟨hx, hb, hml, hown, hts⟩ (so_X10_bits l G r_10 M_9 _ hw) wm_RX10_173 wt_yX10_bits wn_RX10 wc_yX10_bits (by decide) ⟨Nat.le_of_ble_eq_true rfl, Nat.le_of_ble_eq_true rfl⟩ ⟨rfl, rfl⟩ hSt hTb hP hS rfl hl.1 rfl (Nat.le_of_ble_eq_true rfl) dX10_start_75 ⟨Nat.le_refl 0, Nat.le_refl 0⟩ (fun rr_ M_11 H locs hq hP hS => ?_)
        obtain ⟨r_12, rfl, hw⟩ := hq
        refine lv_istore (lv' := [(8, .int r_12), (0, .ref (G.1 + h)), (1, .int v1), (2, .int v2), (3, .int v3), (4, .int v4), (5, .int v5), (6, .int v6), (7, .int v7)]) hx hb dX10_start_78 hl (by decide) rfl (fun ls hl => ?_)
        refine lv_iload hx hb dX10_start_80 (lv_at hl 0 rfl) ?_
        refine lv_iload hx hb dX10_start_82 (lv_at hl 7 rfl) ?_
        refine lv_icmp_le (tgt := 92) hx hb dX10_start_84 (by decide) (fun c_13 => ?_) (fun c_13 => ?_)
        · have hw := hw.1 c_13
          refine lv_iload hx hb dX10_start_92 (lv_at hl 6 rfl) ?_
          exact J_94 v6 v7 r_12 v5 M_11 _ _ _ hw hP hS (lv_sub hl [1, 2, 3, 4, 5, 7, 8, 0] rfl)
        · have hw := hw.2 c_13
          refine lv_iload hx hb dX10_start_87 (lv_at hl 8 rfl) ?_
          refine lv_goto (tgt := 94) hx hb dX10_start_89 (by decide) ?_
          exact J_94 v6 v7 r_12 v7 M_11 _ _ _ hw hP hS (lv_sub hl [1, 2, 3, 4, 5, 7, 8, 0] rfl)
  have J_27 : ∀  (M : Mem) (H : Heap) (locs : List Loc) (ls : Array Slot), b_X10_start_27 h Q M → va_P G.2.1 clsA (wl G M) H → va_S (inW G) s.heap H locs → lv_has ls 9 [(0, .ref (G.1 + h))] → W p l e ({ frames := 8, cells := 0, slots := 0, locals := 188 } : Room) s m ([.ref (G.1 + h), .int a1, .int a2, .int a3] : List Value).toArray below meth c H locs 0 0 (MQ below (Pq G (Qi Q)) ([.ref (G.1 + h), .int a1, .int a2, .int a3] : List Value).toArray s 0 0 (inW G)) (F0 m 27 ls []) := by
    intro  M H locs ls  hw hP hS hl
    unfold b_X10_start_27 at hw
    refine lv_aload_n hx hb dX10_start_27 rfl (lv_at hl 0 rfl) ?_
    refine lv_ldc (v := (-1000000001)) hx hb hown (ht _ wk_RX10_62) dX10_start_28 ?_
    refine mw_V (As := [.int (-1000000001)]) (rest := []) (T := TX10) (N := 25) (n := 1) ⟨hx, hb, hml, hown, hts⟩ (so_X10_errs l G h (-1000000001) M _ hw) wm_RX10_63 wi_yX10_errs wv_yX10_errs wn_RX10 wc_yX10_errs (by decide) ⟨Nat.le_of_ble_eq_true rfl, Nat.le_of_ble_eq_true rfl⟩ ⟨rfl, rfl⟩ kh (by decide) (mk10 kh) rfl hSt hTb hP hS rfl hl.1 rfl (Nat.le_of_ble_eq_true rfl) dX10_start_30 ⟨Nat.le_refl 0, Nat.le_refl 0⟩ (fun rr_ M_14 H locs hq hP hS => ?_)
    obtain ⟨r_15, rfl, hw⟩ := hq
    exact W.iret hx hb hr (mw_end hP hSt hTb hS ⟨_, rfl, hw⟩) hS.2.2 dX10_start_33
  refine lv_aload_n hx hb dX10_start_0 rfl (lv_at hl 0 rfl) ?_
  refine lv_iload_n hx hb dX10_start_1 rfl (lv_at hl 1 rfl) ?_
  refine mw_V (As := [.int a1]) (rest := []) (T := TX10) (N := 25) (n := 1) ⟨hx, hb, hml, hown, hts⟩ (so_X10_isSeeker l G h a1 M _ hw) wm_RX10_78 wi_yX10_isSeeker wv_yX10_isSeeker wn_RX10 wc_yX10_isSeeker (by decide) ⟨Nat.le_of_ble_eq_true rfl, Nat.le_of_ble_eq_true rfl⟩ ⟨rfl, rfl⟩ kh (by decide) (mk10 kh) rfl hSt hTb hP hS rfl hl.1 rfl (Nat.le_of_ble_eq_true rfl) dX10_start_2 ⟨Nat.le_refl 0, Nat.le_refl 0⟩ (fun rr_ M_16 H locs hq hP hS => ?_)
  obtain ⟨r_17, rfl, hw⟩ := hq
  refine lv_if_eq (tgt := 27) hx hb dX10_start_5 (by decide) (fun c_18 => ?_) (fun c_18 => ?_)
  · have hw := hw.1 c_18
    exact J_27 M_16 _ _ _ hw hP hS (lv_sub hl [0] rfl)
  · have hw := hw.2 c_18
    refine lv_iload_n hx hb dX10_start_8 rfl (lv_at hl 2 rfl) ?_
    refine lv_iconst (v := 0) hx hb dX10_start_9 (by decide) ?_
    refine lv_bipush (v := 20) hx hb dX10_start_10 (by decide) ?_
    refine mw_Sx (As := [.int a2, .int 0, .int 20]) (rest := []) (n := 3) ⟨hx, hb, hml, hown, hts⟩ (so_X10_in l G a2 0 20 M_16 _ hw) wm_RX10_50 wt_yX10_in wn_RX10 wc_yX10_in (by decide) ⟨Nat.le_of_ble_eq_true rfl, Nat.le_of_ble_eq_true rfl⟩ ⟨rfl, rfl⟩ hSt hTb hP hS rfl hl.1 rfl (Nat.le_of_ble_eq_true rfl) dX10_start_12 ⟨Nat.le_refl 0, Nat.le_refl 0⟩ (fun rr_ M_19 H locs hq hP hS => ?_)
    obtain ⟨r_20, rfl, hw⟩ := hq
    refine lv_if_eq (tgt := 27) hx hb dX10_start_15 (by decide) (fun c_21 => ?_) (fun c_21 => ?_)
    · have hw := hw.1 c_21
      exact J_27 M_19 _ _ _ hw hP hS (lv_sub hl [0] rfl)
    · have hw := hw.2 c_21
      refine lv_iload_n hx hb dX10_start_18 rfl (lv_at hl 3 rfl) ?_
      refine lv_iconst (v := 0) hx hb dX10_start_19 (by decide) ?_
      refine lv_iconst (v := 1) hx hb dX10_start_20 (by decide) ?_
      refine mw_Sx (As := [.int a3, .int 0, .int 1]) (rest := []) (n := 3) ⟨hx, hb, hml, hown, hts⟩ (so_X10_in l G a3 0 1 M_19 _ hw) wm_RX10_50 wt_yX10_in wn_RX10 wc_yX10_in (by decide) ⟨Nat.le_of_ble_eq_true rfl, Nat.le_of_ble_eq_true rfl⟩ ⟨rfl, rfl⟩ hSt hTb hP hS rfl hl.1 rfl (Nat.le_of_ble_eq_true rfl) dX10_start_21 ⟨Nat.le_refl 0, Nat.le_refl 0⟩ (fun rr_ M_22 H locs hq hP hS => ?_)
      obtain ⟨r_23, rfl, hw⟩ := hq
      refine lv_if_ne (tgt := 34) hx hb dX10_start_24 (by decide) (fun c_24 => ?_) (fun c_24 => ?_)
      · have hw := hw.1 c_24
        refine lv_aload_n hx hb dX10_start_34 rfl (lv_at hl 0 rfl) ?_
        refine lv_iload_n hx hb dX10_start_35 rfl (lv_at hl 1 rfl) ?_
        refine mw_V (As := [.int a1]) (rest := []) (T := TX10) (N := 25) (n := 1) ⟨hx, hb, hml, hown, hts⟩ (so_X10_at l G h a1 M_22 _ hw) wm_RX10_70 wi_yX10_at wv_yX10_at wn_RX10 wc_yX10_at (by decide) ⟨Nat.le_of_ble_eq_true rfl, Nat.le_of_ble_eq_true rfl⟩ ⟨rfl, rfl⟩ kh (by decide) (mk10 kh) rfl hSt hTb hP hS rfl hl.1 rfl (Nat.le_of_ble_eq_true rfl) dX10_start_36 ⟨Nat.le_refl 0, Nat.le_refl 0⟩ (fun rr_ M_25 H locs hq hP hS => ?_)
        obtain ⟨r_26, rfl, hw⟩ := hq
        refine lv_istore (lv' := [(4, .int r_26), (0, .ref (G.1 + h)), (1, .int a1), (2, .int a2), (3, .int a3)]) hx hb dX10_start_39 hl (by decide) rfl (fun ls hl => ?_)
        refine lv_iconst (v := 0) hx hb dX10_start_41 (by decide) ?_
        refine lv_istore (lv' := [(5, .int 0), (4, .int r_26), (0, .ref (G.1 + h)), (1, .int a1), (2, .int a2), (3, .int a3)]) hx hb dX10_start_42 hl (by decide) rfl (fun ls hl => ?_)
        refine lv_iconst (v := (-1)) hx hb dX10_start_44 (by decide) ?_
        refine lv_istore (lv' := [(6, .int (-1)), (5, .int 0), (4, .int r_26), (0, .ref (G.1 + h)), (1, .int a1), (2, .int a2), (3, .int a3)]) hx hb dX10_start_45 hl (by decide) rfl (fun ls hl => ?_)
        refine lv_iconst (v := 0) hx hb dX10_start_47 (by decide) ?_
        refine lv_istore (lv' := [(7, .int 0), (6, .int (-1)), (5, .int 0), (4, .int r_26), (0, .ref (G.1 + h)), (1, .int a1), (2, .int a2), (3, .int a3)]) hx hb dX10_start_48 hl (by decide) rfl (fun ls hl => ?_)
        obtain ⟨n_, hw⟩ := hw
        exact L_50 a1 a2 a3 r_26 n_ 0 (-1) 0 M_25 _ _ _ hw hP hS (lv_sub hl [4, 5, 6, 7, 3, 2, 1, 0] rfl)
      · have hw := hw.2 c_24
        exact J_27 M_22 _ _ _ hw hP hS (lv_sub hl [0] rfl)
def b_X10_missed_169 (h : Nat) (Q : Int32 → Mem → Prop) (K63 : Int32 → Int32 → Int32 → Mem → Prop) (v1 : Int32) (v2 : Int32) (v3 : Int32) (v5 : Int32) (s0 : Int32) (M : Mem) : Prop :=
  ∀ x_1 : Int32, x_1 = v5 + 1 → K63 v3 s0 x_1 M
def b_X10_missed_154 (h : Nat) (Q : Int32 → Mem → Prop) (K63 : Int32 → Int32 → Int32 → Mem → Prop) (v1 : Int32) (v2 : Int32) (v4 : Int32) (v5 : Int32) (v6 : Int32) (s0 : Int32) (M : Mem) : Prop :=
  (v4 ≤ v6 → b_X10_missed_169 h Q K63 v1 v2 s0 v5 v4 M) ∧ (¬ v4 ≤ v6 → b_X10_missed_169 h Q K63 v1 v2 s0 v5 v6 M)
def B_X10_missed_77 (h : Nat) (Q : Int32 → Mem → Prop) (K63 : Int32 → Int32 → Int32 → Mem → Prop) (v1 : Int32) (v2 : Int32) (v3 : Int32) (v4 : Int32) (v5 : Int32) (K77 : Int32 → Mem → Prop) (v6 : Int32) (M : Mem) : Prop :=
  ((M (h + 1) 2) ≤ v6 → wp_X10_passes h v1 M (fun M_5 => wp_X10_foundSet h M_5 (fun r_7 M_6 => wp_X10_bits r_7 M_6 (fun r_9 M_8 => wp_X10_moveAll h (h + 3) (h + 1) M_8 (fun M_10 => (v4 ≤ r_9 → b_X10_missed_154 h Q K63 v1 v2 v4 v5 r_9 v3 M_10) ∧ (¬ v4 ≤ r_9 → b_X10_missed_154 h Q K63 v1 v2 v4 v5 r_9 v5 M_10)))))) ∧ (¬ (M (h + 1) 2) ≤ v6 → wp_X10_its h v6 4 M (fun r_13 M_12 => wp_X10_gets h v6 4 (r_13 &&& ((ish 1 v5) ^^^ (-1))) M_12 (fun M_14 => ∀ x_15 : Int32, x_15 = v6 + 1 → K77 x_15 M_14)))
def l_X10_missed_77 (h : Nat) (Q : Int32 → Mem → Prop) (K63 : Int32 → Int32 → Int32 → Mem → Prop) (v1 : Int32) (v2 : Int32) (v3 : Int32) (v4 : Int32) (v5 : Int32) : Nat → Int32 → Mem → Prop
  | 0 => fun _ _ => False
  | n + 1 => B_X10_missed_77 h Q K63 v1 v2 v3 v4 v5 (l_X10_missed_77 h Q K63 v1 v2 v3 v4 v5 n)
def B_X10_missed_63 (h : Nat) (Q : Int32 → Mem → Prop) (v1 : Int32) (v2 : Int32) (K63 : Int32 → Int32 → Int32 → Mem → Prop) (v3 : Int32) (v4 : Int32) (v5 : Int32) (M : Mem) : Prop :=
  ((M (h + 3) 3) ≤ v5 → (¬ v2 = 0 → Q v4 M) ∧ (v2 = 0 → Q v3 M)) ∧ (¬ (M (h + 3) 3) ≤ v5 → ∃ n, l_X10_missed_77 h Q K63 v1 v2 v3 v4 v5 n 0 M)
def l_X10_missed_63 (h : Nat) (Q : Int32 → Mem → Prop) (v1 : Int32) (v2 : Int32) : Nat → Int32 → Int32 → Int32 → Mem → Prop
  | 0 => fun _ _ _ _ => False
  | n + 1 => B_X10_missed_63 h Q v1 v2 (l_X10_missed_63 h Q v1 v2 n)
def b_X10_missed_19 (h : Nat) (Q : Int32 → Mem → Prop) (M : Mem) : Prop :=
  wp_X10_errs h (-1000000001) M (fun r_20 M_19 => Q r_20 M_19)
def wp_X10_missed (h : Nat) (a1 : Int32) (a2 : Int32) (M : Mem) (Q : Int32 → Mem → Prop) : Prop :=
  kdT h = 10 ∧ (wp_X10_in a1 0 60 M (fun r_22 M_21 => (r_22 = 0 → b_X10_missed_19 h Q M_21) ∧ (¬ r_22 = 0 → wp_X10_in a2 0 1 M_21 (fun r_25 M_24 => (¬ r_25 = 0 → (¬ (M_24 (h + 1) 3) = 0 → wp_X10_moveAll h (h + 1) (h + 3) M_24 (fun M_29 => ∃ n, l_X10_missed_63 h Q a1 a2 n 0 8 0 M_29)) ∧ ((M_24 (h + 1) 3) = 0 → wp_X10_errs h (-1000000002) M_24 (fun r_31 M_30 => Q r_31 M_30))) ∧ (r_25 = 0 → b_X10_missed_19 h Q M_24)))))
set_option maxHeartbeats 4000000 in
set_option maxRecDepth 100000 in
theorem so_X10_missed (l : Launch) (G : Gm) (h : Nat) (a1 : Int32) (a2 : Int32) (M : Mem) (Q : Int32 → Mem → Prop) (hw : wp_X10_missed h a1 a2 M Q) : Ct l G yX10_missed cX10_missed 7 (some .int) ({ frames := 7, cells := 0, slots := 0, locals := 166 } : Room) [.ref (G.1 + h), .int a1, .int a2] M (Qi Q) := by
  unfold wp_X10_missed at hw
  obtain ⟨kh, hw⟩ := hw
  refine ct_of (by decide) (Nat.le_of_ble_eq_true rfl) ?_
  intro p e s m below meth c E_ ls H hl hP hS
  obtain ⟨hx, hb, hml, hown, hts, ht, hr, hlocks, hSt, hTb⟩ := E_
  have hl : lv_has ls 7 [(0, .ref (G.1 + h)), (1, .int a1), (2, .int a2)] := hl
  have L_63 : ∀ (v1 : Int32) (v2 : Int32), ∀ (n63 : Nat) (v3 : Int32) (v4 : Int32) (v5 : Int32) (M : Mem) (H : Heap) (locs : List Loc) (ls : Array Slot), l_X10_missed_63 h Q v1 v2 n63 v3 v4 v5 M → va_P G.2.1 clsA (wl G M) H → va_S (inW G) s.heap H locs → lv_has ls 7 [(0, .ref (G.1 + h)), (1, .int v1), (2, .int v2), (3, .int v3), (4, .int v4), (5, .int v5)] → W p l e ({ frames := 7, cells := 0, slots := 0, locals := 166 } : Room) s m ([.ref (G.1 + h), .int a1, .int a2] : List Value).toArray below meth c H locs 0 0 (MQ below (Pq G (Qi Q)) ([.ref (G.1 + h), .int a1, .int a2] : List Value).toArray s 0 0 (inW G)) (F0 m 63 ls []) := by
    intro v1 v2  n63
    induction n63 with
    | zero => intro v3 v4 v5 M H locs ls  hw hP hS hl; exact False.elim hw
    | succ n63 ih63 =>
      have J_169 : ∀ (v3 : Int32) (v5 : Int32) (s0 : Int32) (M : Mem) (H : Heap) (locs : List Loc) (ls : Array Slot), b_X10_missed_169 h Q (l_X10_missed_63 h Q v1 v2 n63) v1 v2 v3 v5 s0 M → va_P G.2.1 clsA (wl G M) H → va_S (inW G) s.heap H locs → lv_has ls 7 [(0, .ref (G.1 + h)), (1, .int v1), (2, .int v2), (3, .int v3), (5, .int v5)] → W p l e ({ frames := 7, cells := 0, slots := 0, locals := 166 } : Room) s m ([.ref (G.1 + h), .int a1, .int a2] : List Value).toArray below meth c H locs 0 0 (MQ below (Pq G (Qi Q)) ([.ref (G.1 + h), .int a1, .int a2] : List Value).toArray s 0 0 (inW G)) (F0 m 169 ls [.int s0]) := by
        intro v3 v5 s0 M H locs ls  hw hP hS hl
        unfold b_X10_missed_169 at hw
        refine lv_istore (lv' := [(4, .int s0), (0, .ref (G.1 + h)), (1, .int v1), (2, .int v2), (3, .int v3), (5, .int v5)]) hx hb dX10_missed_169 hl (by decide) rfl (fun ls hl => ?_)
        obtain ⟨x_1, ex_1⟩ : ∃ z : Int32, z = v5 + 1 := ⟨_, rfl⟩
        have hw := hw x_1 ex_1
        refine lv_iinc (v := x_1) (lv' := [(5, .int x_1), (4, .int s0), (0, .ref (G.1 + h)), (1, .int v1), (2, .int v2), (3, .int v3)]) hx hb dX10_missed_171 hl (k := 5) rfl (by rw [ex_1]; rfl) (by decide) rfl (fun ls hl => ?_)
        refine lv_goto (tgt := 63) hx hb dX10_missed_174 (by decide) ?_
        exact ih63 v3 s0 x_1 M _ _ _ hw hP hS (lv_sub hl [2, 3, 4, 5, 1, 0] rfl)
      have J_154 : ∀ (v4 : Int32) (v5 : Int32) (v6 : Int32) (s0 : Int32) (M : Mem) (H : Heap) (locs : List Loc) (ls : Array Slot), b_X10_missed_154 h Q (l_X10_missed_63 h Q v1 v2 n63) v1 v2 v4 v5 v6 s0 M → va_P G.2.1 clsA (wl G M) H → va_S (inW G) s.heap H locs → lv_has ls 7 [(0, .ref (G.1 + h)), (1, .int v1), (2, .int v2), (4, .int v4), (5, .int v5), (6, .int v6)] → W p l e ({ frames := 7, cells := 0, slots := 0, locals := 166 } : Room) s m ([.ref (G.1 + h), .int a1, .int a2] : List Value).toArray below meth c H locs 0 0 (MQ below (Pq G (Qi Q)) ([.ref (G.1 + h), .int a1, .int a2] : List Value).toArray s 0 0 (inW G)) (F0 m 154 ls [.int s0]) := by
        intro v4 v5 v6 s0 M H locs ls  hw hP hS hl
        unfold b_X10_missed_154 at hw
        refine lv_istore_n (lv' := [(3, .int s0), (0, .ref (G.1 + h)), (1, .int v1), (2, .int v2), (4, .int v4), (5, .int v5), (6, .int v6)]) hx hb dX10_missed_154 rfl hl (by decide) rfl (fun ls hl => ?_)
        refine lv_iload hx hb dX10_missed_155 (lv_at hl 6 rfl) ?_
        refine lv_iload hx hb dX10_missed_157 (lv_at hl 4 rfl) ?_
        refine lv_icmp_ge (tgt := 167) hx hb dX10_missed_159 (by decide) (fun c_2 => ?_) (fun c_2 => ?_)
        · have hw := hw.1 c_2
          refine lv_iload hx hb dX10_missed_167 (lv_at hl 4 rfl) ?_
          exact J_169 s0 v5 v4 M _ _ _ hw hP hS (lv_sub hl [1, 2, 3, 0, 5] rfl)
        · have hw := hw.2 c_2
          refine lv_iload hx hb dX10_missed_162 (lv_at hl 6 rfl) ?_
          refine lv_goto (tgt := 169) hx hb dX10_missed_164 (by decide) ?_
          exact J_169 s0 v5 v6 M _ _ _ hw hP hS (lv_sub hl [1, 2, 3, 0, 5] rfl)
      have L_77 : ∀ (v3 : Int32) (v4 : Int32) (v5 : Int32), ∀ (n77 : Nat) (v6 : Int32) (M : Mem) (H : Heap) (locs : List Loc) (ls : Array Slot), l_X10_missed_77 h Q (l_X10_missed_63 h Q v1 v2 n63) v1 v2 v3 v4 v5 n77 v6 M → va_P G.2.1 clsA (wl G M) H → va_S (inW G) s.heap H locs → lv_has ls 7 [(0, .ref (G.1 + h)), (1, .int v1), (2, .int v2), (3, .int v3), (4, .int v4), (5, .int v5), (6, .int v6)] → W p l e ({ frames := 7, cells := 0, slots := 0, locals := 166 } : Room) s m ([.ref (G.1 + h), .int a1, .int a2] : List Value).toArray below meth c H locs 0 0 (MQ below (Pq G (Qi Q)) ([.ref (G.1 + h), .int a1, .int a2] : List Value).toArray s 0 0 (inW G)) (F0 m 77 ls []) := by
        intro v3 v4 v5  n77
        induction n77 with
        | zero => intro v6 M H locs ls  hw hP hS hl; exact False.elim hw
        | succ n77 ih77 =>
          intro v6 M H locs ls  hw hP hS hl
          have hw : B_X10_missed_77 h Q (l_X10_missed_63 h Q v1 v2 n63) v1 v2 v3 v4 v5 (l_X10_missed_77 h Q (l_X10_missed_63 h Q v1 v2 n63) v1 v2 v3 v4 v5 n77) v6 M := hw
          unfold B_X10_missed_77 at hw
          refine lv_iload hx hb dX10_missed_77 (lv_at hl 6 rfl) ?_
          refine lv_aload_n hx hb dX10_missed_79 rfl (lv_at hl 0 rfl) ?_
          refine mw_get (ci := 10) (v := .ref (G.1 + (h + 1))) (C := RX10) (T := TX10) (N := 25) hx hb ht inX10 hown hSt hP kh (by decide) (mk10 kh) rfl 0 (by decide) (ht _ wf_RX10_7) rfl rfl dX10_missed_80 ?_
          refine lv_iconst (v := 2) hx hb dX10_missed_83 (by decide) ?_
          refine mw_ialdc hx hb hSt hP (ks10_0 kh) (ln10_0 kh) 2 (by decide) dX10_missed_84 ?_
          refine lv_icmp_ge (tgt := 115) hx hb dX10_missed_85 (by decide) (fun c_4 => ?_) (fun c_4 => ?_)
          · have hw := hw.1 c_4
            refine lv_aload_n hx hb dX10_missed_115 rfl (lv_at hl 0 rfl) ?_
            refine lv_iload_n hx hb dX10_missed_116 rfl (lv_at hl 1 rfl) ?_
            refine mw_V (As := [.int v1]) (rest := []) (T := TX10) (N := 25) (n := 1) ⟨hx, hb, hml, hown, hts⟩ (so_X10_passes l G h v1 M _ hw) wm_RX10_192 wi_yX10_passes wv_yX10_passes wn_RX10 wc_yX10_passes (by decide) ⟨Nat.le_of_ble_eq_true rfl, Nat.le_of_ble_eq_true rfl⟩ ⟨rfl, rfl⟩ kh (by decide) (mk10 kh) rfl hSt hTb hP hS rfl hl.1 rfl (Nat.le_of_ble_eq_true rfl) dX10_missed_117 ⟨Nat.le_refl 0, Nat.le_refl 0⟩ (fun rr_ M_5 H locs hq hP hS => ?_)
            obtain ⟨rfl, hw⟩ := hq
            refine lv_aload_n hx hb dX10_missed_120 rfl (lv_at hl 0 rfl) ?_
            refine mw_V (As := []) (rest := []) (T := TX10) (N := 25) (n := 0) ⟨hx, hb, hml, hown, hts⟩ (so_X10_foundSet l G h M_5 _ hw) wm_RX10_195 wi_yX10_foundSet wv_yX10_foundSet wn_RX10 wc_yX10_foundSet (by decide) ⟨Nat.le_of_ble_eq_true rfl, Nat.le_of_ble_eq_true rfl⟩ ⟨rfl, rfl⟩ kh (by decide) (mk10 kh) rfl hSt hTb hP hS rfl hl.1 rfl (Nat.le_of_ble_eq_true rfl) dX10_missed_121 ⟨Nat.le_refl 0, Nat.le_refl 0⟩ (fun rr_ M_6 H locs hq hP hS => ?_)
            obtain ⟨r_7, rfl, hw⟩ := hq
            refine mw_Sx (As := [.int r_7]) (rest := []) (n := 1) ⟨hx, hb, hml, hown, hts⟩ (so_X10_bits l G r_7 M_6 _ hw) wm_RX10_173 wt_yX10_bits wn_RX10 wc_yX10_bits (by decide) ⟨Nat.le_of_ble_eq_true rfl, Nat.le_of_ble_eq_true rfl⟩ ⟨rfl, rfl⟩ hSt hTb hP hS rfl hl.1 rfl (Nat.le_of_ble_eq_true rfl) dX10_missed_124 ⟨Nat.le_refl 0, Nat.le_refl 0⟩ (fun rr_ M_8 H locs hq hP hS => ?_)
            obtain ⟨r_9, rfl, hw⟩ := hq
            refine lv_istore (lv' := [(6, .int r_9), (0, .ref (G.1 + h)), (1, .int v1), (2, .int v2), (3, .int v3), (4, .int v4), (5, .int v5)]) hx hb dX10_missed_127 hl (by decide) rfl (fun ls hl => ?_)
            refine lv_aload_n hx hb dX10_missed_129 rfl (lv_at hl 1 rfl) ?_
            refine lv_aload_n hx hb dX10_missed_130 rfl (lv_at hl 1 rfl) ?_
            refine mw_get (ci := 10) (v := .ref (G.1 + (h + 3))) (C := RX10) (T := TX10) (N := 25) hx hb ht inX10 hown hSt hP kh (by decide) (mk10 kh) rfl 2 (by decide) (ht _ wf_RX10_16) rfl rfl dX10_missed_131 ?_
            refine lv_aload_n hx hb dX10_missed_134 rfl (lv_at hl 1 rfl) ?_
            refine mw_get (ci := 10) (v := .ref (G.1 + (h + 1))) (C := RX10) (T := TX10) (N := 25) hx hb ht inX10 hown hSt hP kh (by decide) (mk10 kh) rfl 0 (by decide) (ht _ wf_RX10_7) rfl rfl dX10_missed_135 ?_
            refine mw_V (As := [.ref (G.1 + (h + 3)), .ref (G.1 + (h + 1))]) (rest := []) (T := TX10) (N := 25) (n := 2) ⟨hx, hb, hml, hown, hts⟩ (so_X10_moveAll l G h (h + 3) (h + 1) M_8 _ hw) wm_RX10_188 wi_yX10_moveAll wv_yX10_moveAll wn_RX10 wc_yX10_moveAll (by decide) ⟨Nat.le_of_ble_eq_true rfl, Nat.le_of_ble_eq_true rfl⟩ ⟨rfl, rfl⟩ kh (by decide) (mk10 kh) rfl hSt hTb hP hS rfl hl.1 rfl (Nat.le_of_ble_eq_true rfl) dX10_missed_138 ⟨Nat.le_refl 0, Nat.le_refl 0⟩ (fun rr_ M_10 H locs hq hP hS => ?_)
            obtain ⟨rfl, hw⟩ := hq
            refine lv_iload hx hb dX10_missed_141 (lv_at hl 0 rfl) ?_
            refine lv_iload hx hb dX10_missed_143 (lv_at hl 5 rfl) ?_
            refine lv_icmp_ge (tgt := 153) hx hb dX10_missed_145 (by decide) (fun c_11 => ?_) (fun c_11 => ?_)
            · have hw := hw.1 c_11
              refine lv_iload_n hx hb dX10_missed_153 rfl (lv_at hl 4 rfl) ?_
              exact J_154 v4 v5 r_9 v3 M_10 _ _ _ hw hP hS (lv_sub hl [1, 2, 3, 5, 6, 0] rfl)
            · have hw := hw.2 c_11
              refine lv_iload hx hb dX10_missed_148 (lv_at hl 6 rfl) ?_
              refine lv_goto (tgt := 154) hx hb dX10_missed_150 (by decide) ?_
              exact J_154 v4 v5 r_9 v5 M_10 _ _ _ hw hP hS (lv_sub hl [1, 2, 3, 5, 6, 0] rfl)
          · have hw := hw.2 c_4
            refine lv_aload_n hx hb dX10_missed_88 rfl (lv_at hl 0 rfl) ?_
            refine lv_iload hx hb dX10_missed_89 (lv_at hl 6 rfl) ?_
            refine lv_iconst (v := 4) hx hb dX10_missed_91 (by decide) ?_
            refine lv_aload_n hx hb dX10_missed_92 rfl (lv_at hl 0 rfl) ?_
            refine lv_iload hx hb dX10_missed_93 (lv_at hl 6 rfl) ?_
            refine lv_iconst (v := 4) hx hb dX10_missed_95 (by decide) ?_
            refine mw_V (As := [.int v6, .int 4]) (rest := [.int 4, .int v6, .ref (G.1 + h)]) (T := TX10) (N := 25) (n := 2) ⟨hx, hb, hml, hown, hts⟩ (so_X10_its l G h v6 4 M _ hw) wm_RX10_67 wi_yX10_its wv_yX10_its wn_RX10 wc_yX10_its (by decide) ⟨Nat.le_of_ble_eq_true rfl, Nat.le_of_ble_eq_true rfl⟩ ⟨rfl, rfl⟩ kh (by decide) (mk10 kh) rfl hSt hTb hP hS rfl hl.1 rfl (Nat.le_of_ble_eq_true rfl) dX10_missed_96 ⟨Nat.le_refl 0, Nat.le_refl 0⟩ (fun rr_ M_12 H locs hq hP hS => ?_)
            obtain ⟨r_13, rfl, hw⟩ := hq
            refine lv_iconst (v := 1) hx hb dX10_missed_99 (by decide) ?_
            refine lv_iload hx hb dX10_missed_100 (lv_at hl 5 rfl) ?_
            refine lv_ishl hx hb dX10_missed_102 ?_
            refine lv_iconst (v := (-1)) hx hb dX10_missed_103 (by decide) ?_
            refine lv_ixor hx hb dX10_missed_104 ?_
            refine lv_iand hx hb dX10_missed_105 ?_
            refine mw_V (As := [.int v6, .int 4, .int (r_13 &&& ((ish 1 v5) ^^^ (-1)))]) (rest := []) (T := TX10) (N := 25) (n := 3) ⟨hx, hb, hml, hown, hts⟩ (so_X10_gets l G h v6 4 (r_13 &&& ((ish 1 v5) ^^^ (-1))) M_12 _ hw) wm_RX10_87 wi_yX10_gets wv_yX10_gets wn_RX10 wc_yX10_gets (by decide) ⟨Nat.le_of_ble_eq_true rfl, Nat.le_of_ble_eq_true rfl⟩ ⟨rfl, rfl⟩ kh (by decide) (mk10 kh) rfl hSt hTb hP hS rfl hl.1 rfl (Nat.le_of_ble_eq_true rfl) dX10_missed_106 ⟨Nat.le_refl 0, Nat.le_refl 0⟩ (fun rr_ M_14 H locs hq hP hS => ?_)
            obtain ⟨rfl, hw⟩ := hq
            obtain ⟨x_15, ex_15⟩ : ∃ z : Int32, z = v6 + 1 := ⟨_, rfl⟩
            have hw := hw x_15 ex_15
            refine lv_iinc (v := x_15) (lv' := [(6, .int x_15), (0, .ref (G.1 + h)), (1, .int v1), (2, .int v2), (3, .int v3), (4, .int v4), (5, .int v5)]) hx hb dX10_missed_109 hl (k := 6) rfl (by rw [ex_15]; rfl) (by decide) rfl (fun ls hl => ?_)
            refine lv_goto (tgt := 77) hx hb dX10_missed_112 (by decide) ?_
            exact ih77 x_15 M_14 _ _ _ hw hP hS (lv_sub hl [1, 2, 3, 4, 5, 6, 0] rfl)
      intro v3 v4 v5 M H locs ls  hw hP hS hl
      have hw : B_X10_missed_63 h Q v1 v2 (l_X10_missed_63 h Q v1 v2 n63) v3 v4 v5 M := hw
      unfold B_X10_missed_63 at hw
      refine lv_iload hx hb dX10_missed_63 (lv_at hl 5 rfl) ?_
      refine lv_aload_n hx hb dX10_missed_65 rfl (lv_at hl 0 rfl) ?_
      refine mw_get (ci := 10) (v := .ref (G.1 + (h + 3))) (C := RX10) (T := TX10) (N := 25) hx hb ht inX10 hown hSt hP kh (by decide) (mk10 kh) rfl 2 (by decide) (ht _ wf_RX10_16) rfl rfl dX10_missed_66 ?_
      refine lv_iconst (v := 3) hx hb dX10_missed_69 (by decide) ?_
      refine mw_ialdc hx hb hSt hP (ks10_2 kh) (ln10_2 kh) 3 (by decide) dX10_missed_70 ?_
      refine lv_icmp_ge (tgt := 177) hx hb dX10_missed_71 (by decide) (fun c_17 => ?_) (fun c_17 => ?_)
      · have hw := hw.1 c_17
        refine lv_iload_n hx hb dX10_missed_177 rfl (lv_at hl 2 rfl) ?_
        refine lv_if_ne (tgt := 185) hx hb dX10_missed_178 (by decide) (fun c_18 => ?_) (fun c_18 => ?_)
        · have hw := hw.1 c_18
          refine lv_iload hx hb dX10_missed_185 (lv_at hl 4 rfl) ?_
          exact W.iret hx hb hr (mw_end hP hSt hTb hS ⟨_, rfl, hw⟩) hS.2.2 dX10_missed_187
        · have hw := hw.2 c_18
          refine lv_iload_n hx hb dX10_missed_181 rfl (lv_at hl 3 rfl) ?_
          refine lv_goto (tgt := 187) hx hb dX10_missed_182 (by decide) ?_
          exact W.iret hx hb hr (mw_end hP hSt hTb hS ⟨_, rfl, hw⟩) hS.2.2 dX10_missed_187
      · have hw := hw.2 c_17
        refine lv_iconst (v := 0) hx hb dX10_missed_74 (by decide) ?_
        refine lv_istore (lv' := [(6, .int 0), (0, .ref (G.1 + h)), (1, .int v1), (2, .int v2), (3, .int v3), (4, .int v4), (5, .int v5)]) hx hb dX10_missed_75 hl (by decide) rfl (fun ls hl => ?_)
        obtain ⟨n_, hw⟩ := hw
        exact L_77 v3 v4 v5 n_ 0 M _ _ _ hw hP hS (lv_sub hl [1, 2, 3, 4, 5, 6, 0] rfl)
  have J_19 : ∀  (M : Mem) (H : Heap) (locs : List Loc) (ls : Array Slot), b_X10_missed_19 h Q M → va_P G.2.1 clsA (wl G M) H → va_S (inW G) s.heap H locs → lv_has ls 7 [(0, .ref (G.1 + h))] → W p l e ({ frames := 7, cells := 0, slots := 0, locals := 166 } : Room) s m ([.ref (G.1 + h), .int a1, .int a2] : List Value).toArray below meth c H locs 0 0 (MQ below (Pq G (Qi Q)) ([.ref (G.1 + h), .int a1, .int a2] : List Value).toArray s 0 0 (inW G)) (F0 m 19 ls []) := by
    intro  M H locs ls  hw hP hS hl
    unfold b_X10_missed_19 at hw
    refine lv_aload_n hx hb dX10_missed_19 rfl (lv_at hl 0 rfl) ?_
    refine lv_ldc (v := (-1000000001)) hx hb hown (ht _ wk_RX10_62) dX10_missed_20 ?_
    refine mw_V (As := [.int (-1000000001)]) (rest := []) (T := TX10) (N := 25) (n := 1) ⟨hx, hb, hml, hown, hts⟩ (so_X10_errs l G h (-1000000001) M _ hw) wm_RX10_63 wi_yX10_errs wv_yX10_errs wn_RX10 wc_yX10_errs (by decide) ⟨Nat.le_of_ble_eq_true rfl, Nat.le_of_ble_eq_true rfl⟩ ⟨rfl, rfl⟩ kh (by decide) (mk10 kh) rfl hSt hTb hP hS rfl hl.1 rfl (Nat.le_of_ble_eq_true rfl) dX10_missed_22 ⟨Nat.le_refl 0, Nat.le_refl 0⟩ (fun rr_ M_19 H locs hq hP hS => ?_)
    obtain ⟨r_20, rfl, hw⟩ := hq
    exact W.iret hx hb hr (mw_end hP hSt hTb hS ⟨_, rfl, hw⟩) hS.2.2 dX10_missed_25
  refine lv_iload_n hx hb dX10_missed_0 rfl (lv_at hl 1 rfl) ?_
  refine lv_iconst (v := 0) hx hb dX10_missed_1 (by decide) ?_
  refine lv_bipush (v := 60) hx hb dX10_missed_2 (by decide) ?_
  refine mw_Sx (As := [.int a1, .int 0, .int 60]) (rest := []) (n := 3) ⟨hx, hb, hml, hown, hts⟩ (so_X10_in l G a1 0 60 M _ hw) wm_RX10_50 wt_yX10_in wn_RX10 wc_yX10_in (by decide) ⟨Nat.le_of_ble_eq_true rfl, Nat.le_of_ble_eq_true rfl⟩ ⟨rfl, rfl⟩ hSt hTb hP hS rfl hl.1 rfl (Nat.le_of_ble_eq_true rfl) dX10_missed_4 ⟨Nat.le_refl 0, Nat.le_refl 0⟩ (fun rr_ M_21 H locs hq hP hS => ?_)
  obtain ⟨r_22, rfl, hw⟩ := hq
  refine lv_if_eq (tgt := 19) hx hb dX10_missed_7 (by decide) (fun c_23 => ?_) (fun c_23 => ?_)
  · have hw := hw.1 c_23
    exact J_19 M_21 _ _ _ hw hP hS (lv_sub hl [0] rfl)
  · have hw := hw.2 c_23
    refine lv_iload_n hx hb dX10_missed_10 rfl (lv_at hl 2 rfl) ?_
    refine lv_iconst (v := 0) hx hb dX10_missed_11 (by decide) ?_
    refine lv_iconst (v := 1) hx hb dX10_missed_12 (by decide) ?_
    refine mw_Sx (As := [.int a2, .int 0, .int 1]) (rest := []) (n := 3) ⟨hx, hb, hml, hown, hts⟩ (so_X10_in l G a2 0 1 M_21 _ hw) wm_RX10_50 wt_yX10_in wn_RX10 wc_yX10_in (by decide) ⟨Nat.le_of_ble_eq_true rfl, Nat.le_of_ble_eq_true rfl⟩ ⟨rfl, rfl⟩ hSt hTb hP hS rfl hl.1 rfl (Nat.le_of_ble_eq_true rfl) dX10_missed_13 ⟨Nat.le_refl 0, Nat.le_refl 0⟩ (fun rr_ M_24 H locs hq hP hS => ?_)
    obtain ⟨r_25, rfl, hw⟩ := hq
    refine lv_if_ne (tgt := 26) hx hb dX10_missed_16 (by decide) (fun c_26 => ?_) (fun c_26 => ?_)
    · have hw := hw.1 c_26
      refine lv_aload_n hx hb dX10_missed_26 rfl (lv_at hl 0 rfl) ?_
      refine mw_get (ci := 10) (v := .ref (G.1 + (h + 1))) (C := RX10) (T := TX10) (N := 25) hx hb ht inX10 hown hSt hP kh (by decide) (mk10 kh) rfl 0 (by decide) (ht _ wf_RX10_7) rfl rfl dX10_missed_27 ?_
      refine lv_iconst (v := 3) hx hb dX10_missed_30 (by decide) ?_
      refine mw_ialdc hx hb hSt hP (ks10_0 kh) (ln10_0 kh) 3 (by decide) dX10_missed_31 ?_
      refine lv_if_ne (tgt := 42) hx hb dX10_missed_32 (by decide) (fun c_28 => ?_) (fun c_28 => ?_)
      · have hw := hw.1 c_28
        refine lv_iconst (v := 0) hx hb dX10_missed_42 (by decide) ?_
        refine lv_istore_n (lv' := [(3, .int 0), (0, .ref (G.1 + h)), (1, .int a1), (2, .int a2)]) hx hb dX10_missed_43 rfl hl (by decide) rfl (fun ls hl => ?_)
        refine lv_bipush (v := 8) hx hb dX10_missed_44 (by decide) ?_
        refine lv_istore (lv' := [(4, .int 8), (3, .int 0), (0, .ref (G.1 + h)), (1, .int a1), (2, .int a2)]) hx hb dX10_missed_46 hl (by decide) rfl (fun ls hl => ?_)
        refine lv_aload_n hx hb dX10_missed_48 rfl (lv_at hl 2 rfl) ?_
        refine lv_aload_n hx hb dX10_missed_49 rfl (lv_at hl 2 rfl) ?_
        refine mw_get (ci := 10) (v := .ref (G.1 + (h + 1))) (C := RX10) (T := TX10) (N := 25) hx hb ht inX10 hown hSt hP kh (by decide) (mk10 kh) rfl 0 (by decide) (ht _ wf_RX10_7) rfl rfl dX10_missed_50 ?_
        refine lv_aload_n hx hb dX10_missed_53 rfl (lv_at hl 2 rfl) ?_
        refine mw_get (ci := 10) (v := .ref (G.1 + (h + 3))) (C := RX10) (T := TX10) (N := 25) hx hb ht inX10 hown hSt hP kh (by decide) (mk10 kh) rfl 2 (by decide) (ht _ wf_RX10_16) rfl rfl dX10_missed_54 ?_
        refine mw_V (As := [.ref (G.1 + (h + 1)), .ref (G.1 + (h + 3))]) (rest := []) (T := TX10) (N := 25) (n := 2) ⟨hx, hb, hml, hown, hts⟩ (so_X10_moveAll l G h (h + 1) (h + 3) M_24 _ hw) wm_RX10_188 wi_yX10_moveAll wv_yX10_moveAll wn_RX10 wc_yX10_moveAll (by decide) ⟨Nat.le_of_ble_eq_true rfl, Nat.le_of_ble_eq_true rfl⟩ ⟨rfl, rfl⟩ kh (by decide) (mk10 kh) rfl hSt hTb hP hS rfl hl.1 rfl (Nat.le_of_ble_eq_true rfl) dX10_missed_57 ⟨Nat.le_refl 0, Nat.le_refl 0⟩ (fun rr_ M_29 H locs hq hP hS => ?_)
        obtain ⟨rfl, hw⟩ := hq
        refine lv_iconst (v := 0) hx hb dX10_missed_60 (by decide) ?_
        refine lv_istore (lv' := [(5, .int 0), (4, .int 8), (3, .int 0), (0, .ref (G.1 + h)), (1, .int a1), (2, .int a2)]) hx hb dX10_missed_61 hl (by decide) rfl (fun ls hl => ?_)
        obtain ⟨n_, hw⟩ := hw
        exact L_63 a1 a2 n_ 0 8 0 M_29 _ _ _ hw hP hS (lv_sub hl [3, 4, 5, 2, 1, 0] rfl)
      · have hw := hw.2 c_28
        refine lv_aload_n hx hb dX10_missed_35 rfl (lv_at hl 0 rfl) ?_
        refine lv_ldc (v := (-1000000002)) hx hb hown (ht _ wk_RX10_204) dX10_missed_36 ?_
        refine mw_V (As := [.int (-1000000002)]) (rest := []) (T := TX10) (N := 25) (n := 1) ⟨hx, hb, hml, hown, hts⟩ (so_X10_errs l G h (-1000000002) M_24 _ hw) wm_RX10_63 wi_yX10_errs wv_yX10_errs wn_RX10 wc_yX10_errs (by decide) ⟨Nat.le_of_ble_eq_true rfl, Nat.le_of_ble_eq_true rfl⟩ ⟨rfl, rfl⟩ kh (by decide) (mk10 kh) rfl hSt hTb hP hS rfl hl.1 rfl (Nat.le_of_ble_eq_true rfl) dX10_missed_38 ⟨Nat.le_refl 0, Nat.le_refl 0⟩ (fun rr_ M_30 H locs hq hP hS => ?_)
        obtain ⟨r_31, rfl, hw⟩ := hq
        exact W.iret hx hb hr (mw_end hP hSt hTb hS ⟨_, rfl, hw⟩) hS.2.2 dX10_missed_41
    · have hw := hw.2 c_26
      exact J_19 M_24 _ _ _ hw hP hS (lv_sub hl [0] rfl)
