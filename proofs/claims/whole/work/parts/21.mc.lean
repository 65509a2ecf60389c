def b_X10_nobody_79 (h : Nat) (Q : Int32 → Mem → Prop) (K49 : Int32 → Int32 → Mem → Prop) (v2 : Int32) (s0 : Int32) (s1 : Int32) (M : Mem) : Prop :=
  ∀ x_1, x_1 = s0 &&& s1 → ∀ x_2 : Int32, x_2 = v2 + 1 → K49 x_1 x_2 M
def B_X10_nobody_49 (h : Nat) (Q : Int32 → Mem → Prop) (K49 : Int32 → Int32 → Mem → Prop) (v1 : Int32) (v2 : Int32) (M : Mem) : Prop :=
  ((M (h + 1) 3) ≤ v2 → Q v1 M) ∧ (¬ (M (h + 1) 3) ≤ v2 → wp_X10_outFor h v2 M (fun r_6 M_5 => (0 ≤ r_6 → b_X10_nobody_79 h Q K49 v2 v1 ((ish 1 r_6) ^^^ (-1)) M_5) ∧ (¬ 0 ≤ r_6 → b_X10_nobody_79 h Q K49 v2 v1 (-1) M_5)))
def l_X10_nobody_49 (h : Nat) (Q : Int32 → Mem → Prop) : Nat → Int32 → Int32 → Mem → Prop
  | 0 => fun _ _ _ => False
  | n + 1 => B_X10_nobody_49 h Q (l_X10_nobody_49 h Q n)
def b_X10_nobody_39 (h : Nat) (Q : Int32 → Mem → Prop) (K4 : Int32 → Int32 → Mem → Prop) (v2 : Int32) (s0 : Int32) (s1 : Int32) (M : Mem) : Prop :=
  ∀ x_8, x_8 = s0 ||| s1 → ∀ x_9 : Int32, x_9 = v2 + 1 → K4 x_8 x_9 M
def b_X10_nobody_38 (h : Nat) (Q : Int32 → Mem → Prop) (K4 : Int32 → Int32 → Mem → Prop) (v2 : Int32) (s0 : Int32) (M : Mem) : Prop :=
  b_X10_nobody_39 h Q K4 v2 s0 0 M
def B_X10_nobody_4 (h : Nat) (Q : Int32 → Mem → Prop) (K4 : Int32 → Int32 → Mem → Prop) (v1 : Int32) (v2 : Int32) (M : Mem) : Prop :=
  ((M (h + 1) 2) ≤ v2 → ∃ n, l_X10_nobody_49 h Q n v1 0 M) ∧ (¬ (M (h + 1) 2) ≤ v2 → wp_X10_its h v2 5 M (fun r_13 M_12 => (¬ r_13 = 0 → b_X10_nobody_38 h Q K4 v2 v1 M_12) ∧ (r_13 = 0 → wp_X10_isLost h v2 M_12 (fun r_16 M_15 => (¬ r_16 = 0 → b_X10_nobody_38 h Q K4 v2 v1 M_15) ∧ (r_16 = 0 → b_X10_nobody_39 h Q K4 v2 v1 (ish 1 v2) M_15)))))
def l_X10_nobody_4 (h : Nat) (Q : Int32 → Mem → Prop) : Nat → Int32 → Int32 → Mem → Prop
  | 0 => fun _ _ _ => False
  | n + 1 => B_X10_nobody_4 h Q (l_X10_nobody_4 h Q n)
def wp_X10_nobody (h : Nat) (M : Mem) (Q : Int32 → Mem → Prop) : Prop :=
  kdT h = 10 ∧ (∃ n, l_X10_nobody_4 h Q n 0 0 M)
set_option maxHeartbeats 4000000 in
set_option maxRecDepth 100000 in
theorem so_X10_nobody (l : Launch) (G : Gm) (h : Nat) (M : Mem) (Q : Int32 → Mem → Prop) (hw : wp_X10_nobody h M Q) : Ct l G yX10_nobody cX10_nobody 4 (some .int) ({ frames := 4, cells := 0, slots := 0, locals := 100 } : Room) [.ref (G.1 + h)] M (Qi Q) := by
  unfold wp_X10_nobody at hw
  obtain ⟨kh, hw⟩ := hw
  refine ct_of (by decide) (Nat.le_of_ble_eq_true rfl) ?_
  intro p e s m below meth c E_ ls H hl hP hS
  obtain ⟨hx, hb, hml, hown, hts, ht, hr, hlocks, hSt, hTb⟩ := E_
  have hl : lv_has ls 4 [(0, .ref (G.1 + h))] := hl
  have L_49 : ∀ (n49 : Nat) (v1 : Int32) (v2 : Int32) (M : Mem) (H : Heap) (locs : List Loc) (ls : Array Slot), l_X10_nobody_49 h Q n49 v1 v2 M → va_P G.2.1 clsA (wl G M) H → va_S (inW G) s.heap H locs → lv_has ls 4 [(0, .ref (G.1 + h)), (1, .int v1), (2, .int v2)] → W p l e ({ frames := 4, cells := 0, slots := 0, locals := 100 } : Room) s m ([.ref (G.1 + h)] : List Value).toArray below meth c H locs 0 0 (MQ below (Pq G (Qi Q)) ([.ref (G.1 + h)] : List Value).toArray s 0 0 (inW G)) (F0 m 49 ls []) := by
    intro   n49
    induction n49 with
    | zero => intro v1 v2 M H locs ls  hw hP hS hl; exact False.elim hw
    | succ n49 ih49 =>
      have J_79 : ∀ (v2 : Int32) (s0 : Int32) (s1 : Int32) (M : Mem) (H : Heap) (locs : List Loc) (ls : Array Slot), b_X10_nobody_79 h Q (l_X10_nobody_49 h Q n49) v2 s0 s1 M → va_P G.2.1 clsA (wl G M) H → va_S (inW G) s.heap H locs → lv_has ls 4 [(0, .ref (G.1 + h)), (2, .int v2)] → W p l e ({ frames := 4, cells := 0, slots := 0, locals := 100 } : Room) s m ([.ref (G.1 + h)] : List Value).toArray below meth c H locs 0 0 (MQ below (Pq G (Qi Q)) ([.ref (G.1 + h)] : List Value).toArray s 0 0 (inW G)) (F0 m 79 ls [.int s1, .int s0]) := by
        intro v2 s0 s1 M H locs ls  hw hP hS hl
        unfold b_X10_nobody_79 at hw
        refine lv_iand hx hb dX10_nobody_79 ?_
        refine lv_topi (fun x_1 ex_1 => ?_)
        have hw := hw x_1 ex_1
        refine lv_istore_n (lv' := [(1, .int x_1), (0, .ref (G.1 + h)), (2, .int v2)]) hx hb dX10_nobody_80 rfl hl (by decide) rfl (fun ls hl => ?_)
        obtain ⟨x_2, ex_2⟩ : ∃ z : Int32, z = v2 + 1 := ⟨_, rfl⟩
        have hw := hw x_2 ex_2
        refine lv_iinc (v := x_2) (lv' := [(2, .int x_2), (1, .int x_1), (0, .ref (G.1 + h))]) hx hb dX10_nobody_81 hl (k := 2) rfl (by rw [ex_2]; rfl) (by decide) rfl (fun ls hl => ?_)
        refine lv_goto (tgt := 49) hx hb dX10_nobody_84 (by decide) ?_
        exact ih49 x_1 x_2 M _ _ _ hw hP hS (lv_sub hl [2, 1, 0] rfl)
      intro v1 v2 M H locs ls  hw hP hS hl
      have hw : B_X10_nobody_49 h Q (l_X10_nobody_49 h Q n49) v1 v2 M := hw
      unfold B_X10_nobody_49 at hw
      refine lv_iload_n hx hb dX10_nobody_49 rfl (lv_at hl 2 rfl) ?_
      refine lv_aload_n hx hb dX10_nobody_50 rfl (lv_at hl 0 rfl) ?_
      refine mw_get (ci := 10) (v := .ref (G.1 + (h + 1))) (C := RX10) (T := TX10) (N := 25) hx hb ht inX10 hown hSt hP kh (by decide) (mk10 kh) rfl 0 (by decide) (ht _ wf_RX10_7) rfl rfl dX10_nobody_51 ?_
      refine lv_iconst (v := 3) hx hb dX10_nobody_54 (by decide) ?_
      refine mw_ialdc hx hb hSt hP (ks10_0 kh) (ln10_0 kh) 3 (by decide) dX10_nobody_55 ?_
      refine lv_icmp_ge (tgt := 87) hx hb dX10_nobody_56 (by decide) (fun c_4 => ?_) (fun c_4 => ?_)
      · have hw := hw.1 c_4
        refine lv_iload_n hx hb dX10_nobody_87 rfl (lv_at hl 1 rfl) ?_
        exact W.iret hx hb hr (mw_end hP hSt hTb hS ⟨_, rfl, hw⟩) hS.2.2 dX10_nobody_88
      · have hw := hw.2 c_4
        refine lv_aload_n hx hb dX10_nobody_59 rfl (lv_at hl 0 rfl) ?_
        refine lv_iload_n hx hb dX10_nobody_60 rfl (lv_at hl 2 rfl) ?_
        refine mw_V (As := [.int v2]) (rest := []) (T := TX10) (N := 25) (n := 1) ⟨hx, hb, hml, hown, hts⟩ (so_X10_outFor l G h v2 M _ hw) wm_RX10_81 wi_yX10_outFor wv_yX10_outFor wn_RX10 wc_yX10_outFor (by decide) ⟨Nat.le_of_ble_eq_true rfl, Nat.le_of_ble_eq_true rfl⟩ ⟨rfl, rfl⟩ kh (by decide) (mk10 kh) rfl hSt hTb hP hS rfl hl.1 rfl (Nat.le_of_ble_eq_true rfl) dX10_nobody_61 ⟨Nat.le_refl 0, Nat.le_refl 0⟩ (fun rr_ M_5 H locs hq hP hS => ?_)
        obtain ⟨r_6, rfl, hw⟩ := hq
        refine lv_istore_n (lv' := [(3, .int r_6), (0, .ref (G.1 + h)), (1, .int v1), (2, .int v2)]) hx hb dX10_nobody_64 rfl hl (by decide) rfl (fun ls hl => ?_)
        refine lv_iload_n hx hb dX10_nobody_65 rfl (lv_at hl 2 rfl) ?_
        refine lv_iload_n hx hb dX10_nobody_66 rfl (lv_at hl 0 rfl) ?_
        refine lv_if_ge (tgt := 74) hx hb dX10_nobody_67 (by decide) (fun c_7 => ?_) (fun c_7 => ?_)
        · have hw := hw.1 c_7
          refine lv_iconst (v := 1) hx hb dX10_nobody_74 (by decide) ?_
          refine lv_iload_n hx hb dX10_nobody_75 rfl (lv_at hl 0 rfl) ?_
          refine lv_ishl hx hb dX10_nobody_76 ?_
          refine lv_iconst (v := (-1)) hx hb dX10_nobody_77 (by decide) ?_
          refine lv_ixor hx hb dX10_nobody_78 ?_
          exact J_79 v2 v1 ((ish 1 r_6) ^^^ (-1)) M_5 _ _ _ hw hP hS (lv_sub hl [1, 3] rfl)
        · have hw := hw.2 c_7
          refine lv_iconst (v := (-1)) hx hb dX10_nobody_70 (by decide) ?_
          refine lv_goto (tgt := 79) hx hb dX10_nobody_71 (by decide) ?_
          exact J_79 v2 v1 (-1) M_5 _ _ _ hw hP hS (lv_sub hl [1, 3] rfl)
  have L_4 : ∀ (n4 : Nat) (v1 : Int32) (v2 : Int32) (M : Mem) (H : Heap) (locs : List Loc) (ls : Array Slot), l_X10_nobody_4 h Q n4 v1 v2 M → va_P G.2.1 clsA (wl G M) H → va_S (inW G) s.heap H locs → lv_has ls 4 [(0, .ref (G.1 + h)), (1, .int v1), (2, .int v2)] → W p l e ({ frames := 4, cells := 0, slots := 0, locals := 100 } : Room) s m ([.ref (G.1 + h)] : List Value).toArray below meth c H locs 0 0 (MQ below (Pq G (Qi Q)) ([.ref (G.1 + h)] : List Value).toArray s 0 0 (inW G)) (F0 m 4 ls []) := by
    intro   n4
    induction n4 with
    | zero => intro v1 v2 M H locs ls  hw hP hS hl; exact False.elim hw
    | succ n4 ih4 =>
      have J_39 : ∀ (v2 : Int32) (s0 : Int32) (s1 : Int32) (M : Mem) (H : Heap) (locs : List Loc) (ls : Array Slot), b_X10_nobody_39 h Q (l_X10_nobody_4 h Q n4) v2 s0 s1 M → va_P G.2.1 clsA (wl G M) H → va_S (inW G) s.heap H locs → lv_has ls 4 [(0, .ref (G.1 + h)), (2, .int v2)] → W p l e ({ frames := 4, cells := 0, slots := 0, locals := 100 } : Room) s m ([.ref (G.1 + h)] : List Value).toArray below meth c H locs 0 0 (MQ below (Pq G (Qi Q)) ([.ref (G.1 + h)] : List Value).toArray s 0 0 (inW G)) (F0 m 39 ls [.int s1, .int s0]) := by
        intro v2 s0 s1 M H locs ls  hw hP hS hl
        unfold b_X10_nobody_39 at hw
        refine lv_ior hx hb dX10_nobody_39 ?_
        refine lv_topi (fun x_8 ex_8 => ?_)
        have hw := hw x_8 ex_8
        refine lv_istore_n (lv' := [(1, .int x_8), (0, .ref (G.1 + h)), (2, .int v2)]) hx hb dX10_nobody_40 rfl hl (by decide) rfl (fun ls hl => ?_)
        obtain ⟨x_9, ex_9⟩ : ∃ z : Int32, z = v2 + 1 := ⟨_, rfl⟩
        have hw := hw x_9 ex_9
        refine lv_iinc (v := x_9) (lv' := [(2, .int x_9), (1, .int x_8), (0, .ref (G.1 + h))]) hx hb dX10_nobody_41 hl (k := 2) rfl (by rw [ex_9]; rfl) (by decide) rfl (fun ls hl => ?_)
        refine lv_goto (tgt := 4) hx hb dX10_nobody_44 (by decide) ?_
        exact ih4 x_8 x_9 M _ _ _ hw hP hS (lv_sub hl [2, 1, 0] rfl)
      have J_38 : ∀ (v2 : Int32) (s0 : Int32) (M : Mem) (H : Heap) (locs : List Loc) (ls : Array Slot), b_X10_nobody_38 h Q (l_X10_nobody_4 h Q n4) v2 s0 M → va_P G.2.1 clsA (wl G M) H → va_S (inW G) s.heap H locs → lv_has ls 4 [(0, .ref (G.1 + h)), (2, .int v2)] → W p l e ({ frames := 4, cells := 0, slots := 0, locals := 100 } : Room) s m ([.ref (G.1 + h)] : List Value).toArray below meth c H locs 0 0 (MQ below (Pq G (Qi Q)) ([.ref (G.1 + h)] : List Value).toArray s 0 0 (inW G)) (F0 m 38 ls [.int s0]) := by
        intro v2 s0 M H locs ls  hw hP hS hl
        unfold b_X10_nobody_38 at hw
        refine lv_iconst (v := 0) hx hb dX10_nobody_38 (by decide) ?_
        exact J_39 v2 s0 0 M _ _ _ hw hP hS (lv_sub hl [0, 1] rfl)
      intro v1 v2 M H locs ls  hw hP hS hl
      have hw : B_X10_nobody_4 h Q (l_X10_nobody_4 h Q n4) v1 v2 M := hw
      unfold B_X10_nobody_4 at hw
      refine lv_iload_n hx hb dX10_nobody_4 rfl (lv_at hl 2 rfl) ?_
      refine lv_aload_n hx hb dX10_nobody_5 rfl (lv_at hl 0 rfl) ?_
      refine mw_get (ci := 10) (v := .ref (G.1 + (h + 1))) (C := RX10) (T := TX10) (N := 25) hx hb ht inX10 hown hSt hP kh (by decide) (mk10 kh) rfl 0 (by decide) (ht _ wf_RX10_7) rfl rfl dX10_nobody_6 ?_
      refine lv_iconst (v := 2) hx hb dX10_nobody_9 (by decide) ?_
      refine mw_ialdc hx hb hSt hP (ks10_0 kh) (ln10_0 kh) 2 (by decide) dX10_nobody_10 ?_
      refine lv_icmp_ge (tgt := 47) hx hb dX10_nobody_11 (by decide) (fun c_11 => ?_) (fun c_11 => ?_)
      · have hw := hw.1 c_11
        refine lv_iconst (v := 0) hx hb dX10_nobody_47 (by decide) ?_
        refine lv_istore_n (lv' := [(2, .int 0), (0, .ref (G.1 + h)), (1, .int v1)]) hx hb dX10_nobody_48 rfl hl (by decide) rfl (fun ls hl => ?_)
        obtain ⟨n_, hw⟩ := hw
        exact L_49 n_ v1 0 M _ _ _ hw hP hS (lv_sub hl [1, 2, 0] rfl)
      · have hw := hw.2 c_11
        refine lv_iload_n hx hb dX10_nobody_14 rfl (lv_at hl 1 rfl) ?_
        refine lv_aload_n hx hb dX10_nobody_15 rfl (lv_at hl 0 rfl) ?_
        refine lv_iload_n hx hb dX10_nobody_16 rfl (lv_at hl 2 rfl) ?_
        refine lv_iconst (v := 5) hx hb dX10_nobody_17 (by decide) ?_
        refine mw_V (As := [.int v2, .int 5]) (rest := [.int v1]) (T := TX10) (N := 25) (n := 2) ⟨hx, hb, hml, hown, hts⟩ (so_X10_its l G h v2 5 M _ hw) wm_RX10_67 wi_yX10_its wv_yX10_its wn_RX10 wc_yX10_its (by decide) ⟨Nat.le_of_ble_eq_true rfl, Nat.le_of_ble_eq_true rfl⟩ ⟨rfl, rfl⟩ kh (by decide) (mk10 kh) rfl hSt hTb hP hS rfl hl.1 rfl (Nat.le_of_ble_eq_true rfl) dX10_nobody_18 ⟨Nat.le_refl 0, Nat.le_refl 0⟩ (fun rr_ M_12 H locs hq hP hS => ?_)
        obtain ⟨r_13, rfl, hw⟩ := hq
        refine lv_if_ne (tgt := 38) hx hb dX10_nobody_21 (by decide) (fun c_14 => ?_) (fun c_14 => ?_)
        · have hw := hw.1 c_14
          exact J_38 v2 v1 M_12 _ _ _ hw hP hS (lv_sub hl [0, 2] rfl)
        · have hw := hw.2 c_14
          refine lv_aload_n hx hb dX10_nobody_24 rfl (lv_at hl 0 rfl) ?_
          refine lv_iload_n hx hb dX10_nobody_25 rfl (lv_at hl 2 rfl) ?_
          refine mw_V (As := [.int v2]) (rest := [.int v1]) (T := TX10) (N := 25) (n := 1) ⟨hx, hb, hml, hown, hts⟩ (so_X10_isLost l G h v2 M_12 _ hw) wm_RX10_179 wi_yX10_isLost wv_yX10_isLost wn_RX10 wc_yX10_isLost (by decide) ⟨Nat.le_of_ble_eq_true rfl, Nat.le_of_ble_eq_true rfl⟩ ⟨rfl, rfl⟩ kh (by decide) (mk10 kh) rfl hSt hTb hP hS rfl hl.1 rfl (Nat.le_of_ble_eq_true rfl) dX10_nobody_26 ⟨Nat.le_refl 0, Nat.le_refl 0⟩ (fun rr_ M_15 H locs hq hP hS => ?_)
          obtain ⟨r_16, rfl, hw⟩ := hq
          refine lv_if_ne (tgt := 38) hx hb dX10_nobody_29 (by decide) (fun c_17 => ?_) (fun c_17 => ?_)
          · have hw := hw.1 c_17
            exact J_38 v2 v1 M_15 _ _ _ hw hP hS (lv_sub hl [0, 2] rfl)
          · have hw := hw.2 c_17
            refine lv_iconst (v := 1) hx hb dX10_nobody_32 (by decide) ?_
            refine lv_iload_n hx hb dX10_nobody_33 rfl (lv_at hl 2 rfl) ?_
            refine lv_ishl hx hb dX10_nobody_34 ?_
            refine lv_goto (tgt := 39) hx hb dX10_nobody_35 (by decide) ?_
            exact J_39 v2 v1 (ish 1 v2) M_15 _ _ _ hw hP hS (lv_sub hl [0, 2] rfl)
  refine lv_iconst (v := 0) hx hb dX10_nobody_0 (by decide) ?_
  refine lv_istore_n (lv' := [(1, .int 0), (0, .ref (G.1 + h))]) hx hb dX10_nobody_1 rfl hl (by decide) rfl (fun ls hl => ?_)
  refine lv_iconst (v := 0) hx hb dX10_nobody_2 (by decide) ?_
  refine lv_istore_n (lv' := [(2, .int 0), (1, .int 0), (0, .ref (G.1 + h))]) hx hb dX10_nobody_3 rfl hl (by decide) rfl (fun ls hl => ?_)
  obtain ⟨n_, hw⟩ := hw
  exact L_4 n_ 0 0 M _ _ _ hw hP hS (lv_sub hl [2, 1, 0] rfl)
def wp_X10_isSheet (a0 : Int32) (M : Mem) (Q : Int32 → Mem → Prop) : Prop :=
  wp_X10_in a0 0 3 M (fun r_2 M_1 => isb r_2 ∧ Q r_2 M_1)
set_option maxHeartbeats 4000000 in
set_option maxRecDepth 100000 in
theorem so_X10_isSheet (l : Launch) (G : Gm) (a0 : Int32) (M : Mem) (Q : Int32 → Mem → Prop) (hw : wp_X10_isSheet a0 M Q) : Ct l G yX10_isSheet cX10_isSheet 1 (some .boolean) ({ frames := 1, cells := 0, slots := 0, locals := 22 } : Room) [.int a0] M (Qi Q) := by
  unfold wp_X10_isSheet at hw
  refine ct_of (by decide) (Nat.le_of_ble_eq_true rfl) ?_
  intro p e s m below meth c E_ ls H hl hP hS
  obtain ⟨hx, hb, hml, hown, hts, ht, hr, hlocks, hSt, hTb⟩ := E_
  have hl : lv_has ls 1 [(0, .int a0)] := hl
  refine lv_iload_n hx hb dX10_isSheet_0 rfl (lv_at hl 0 rfl) ?_
  refine lv_iconst (v := 0) hx hb dX10_isSheet_1 (by decide) ?_
  refine lv_iconst (v := 3) hx hb dX10_isSheet_2 (by decide) ?_
  refine mw_Sx (As := [.int a0, .int 0, .int 3]) (rest := []) (n := 3) ⟨hx, hb, hml, hown, hts⟩ (so_X10_in l G a0 0 3 M _ hw) wm_RX10_50 wt_yX10_in wn_RX10 wc_yX10_in (by decide) ⟨Nat.le_of_ble_eq_true rfl, Nat.le_of_ble_eq_true rfl⟩ ⟨rfl, rfl⟩ hSt hTb hP hS rfl hl.1 rfl (Nat.le_of_ble_eq_true rfl) dX10_isSheet_3 ⟨Nat.le_refl 0, Nat.le_refl 0⟩ (fun rr_ M_1 H locs hq hP hS => ?_)
  obtain ⟨r_2, rfl, hw⟩ := hq
  obtain ⟨c_3, hw⟩ := hw
  exact W.zret hx hb hr c_3.narrow (mw_end hP hSt hTb hS ⟨_, rfl, hw⟩) hS.2.2 dX10_isSheet_6
def b_X10_isSnowSo_58 (h : Nat) (Q : Int32 → Mem → Prop) (K20 : Int32 → Int32 → Mem → Prop) (v1 : Int32) (v3 : Int32) (s0 : Int32) (M : Mem) : Prop :=
  ∀ x_1 : Int32, x_1 = v3 + 1 → K20 s0 x_1 M
def b_X10_isSnowSo_57 (h : Nat) (Q : Int32 → Mem → Prop) (K20 : Int32 → Int32 → Mem → Prop) (v1 : Int32) (v3 : Int32) (M : Mem) : Prop :=
  b_X10_isSnowSo_58 h Q K20 v1 v3 0 M
def B_X10_isSnowSo_20 (h : Nat) (Q : Int32 → Mem → Prop) (v1 : Int32) (K20 : Int32 → Int32 → Mem → Prop) (v2 : Int32) (v3 : Int32) (M : Mem) : Prop :=
  (10 ≤ v3 → wp_X10_moveAll h (h + 3) (h + 1) M (fun M_3 => isb v2 ∧ Q v2 M_3)) ∧ (¬ 10 ≤ v3 → (v2 = 0 → b_X10_isSnowSo_57 h Q K20 v1 v3 M) ∧ (¬ v2 = 0 → vp_in (8 + v3) 242 ∧ (vp_in ((40 * v1) + v3) 160 ∧ ((¬ (M (h + 1) (8 + v3).toNatClampNeg) = (M (h + 11) ((40 * v1) + v3).toNatClampNeg) → b_X10_isSnowSo_57 h Q K20 v1 v3 M) ∧ ((M (h + 1) (8 + v3).toNatClampNeg) = (M (h + 11) ((40 * v1) + v3).toNatClampNeg) → b_X10_isSnowSo_58 h Q K20 v1 v3 1 M)))))
def l_X10_isSnowSo_20 (h : Nat) (Q : Int32 → Mem → Prop) (v1 : Int32) : Nat → Int32 → Int32 → Mem → Prop
  | 0 => fun _ _ _ => False
  | n + 1 => B_X10_isSnowSo_20 h Q v1 (l_X10_isSnowSo_20 h Q v1 n)
def wp_X10_isSnowSo (h : Nat) (a1 : Int32) (M : Mem) (Q : Int32 → Mem → Prop) : Prop :=
  kdT h = 10 ∧ (wp_X10_moveAll h (h + 1) (h + 3) M (fun M_9 => wp_X10_oneHour h M_9 (fun M_10 => ∃ n, l_X10_isSnowSo_20 h Q a1 n 1 0 M_10)))
set_option maxHeartbeats 4000000 in
set_option maxRecDepth 100000 in
theorem so_X10_isSnowSo (l : Launch) (G : Gm) (h : Nat) (a1 : Int32) (M : Mem) (Q : Int32 → Mem → Prop) (hw : wp_X10_isSnowSo h a1 M Q) : Ct l G yX10_isSnowSo cX10_isSnowSo 4 (some .boolean) ({ frames := 6, cells := 0, slots := 0, locals := 144 } : Room) [.ref (G.1 + h), .int a1] M (Qi Q) := by
  unfold wp_X10_isSnowSo at hw
  obtain ⟨kh, hw⟩ := hw
  refine ct_of (by decide) (Nat.le_of_ble_eq_true rfl) ?_
  intro p e s m below meth c E_ ls H hl hP hS
  obtain ⟨hx, hb, hml, hown, hts, ht, hr, hlocks, hSt, hTb⟩ := E_
  have hl : lv_has ls 4 [(0, .ref (G.1 + h)), (1, .int a1)] := hl
  have L_20 : ∀ (v1 : Int32), ∀ (n20 : Nat) (v2 : Int32) (v3 : Int32) (M : Mem) (H : Heap) (locs : List Loc) (ls : Array Slot), l_X10_isSnowSo_20 h Q v1 n20 v2 v3 M → va_P G.2.1 clsA (wl G M) H → va_S (inW G) s.heap H locs → lv_has ls 4 [(0, .ref (G.1 + h)), (1, .int v1), (2, .int v2), (3, .int v3)] → W p l e ({ frames := 6, cells := 0, slots := 0, locals := 144 } : Room) s m ([.ref (G.1 + h), .int a1] : List Value).toArray below meth c H locs 0 0 (MQ below (Pq G (Qi Q)) ([.ref (G.1 + h), .int a1] : List Value).toArray s 0 0 (inW G)) (F0 m 20 ls []) := by
    intro v1  n20
    induction n20 with
    | zero => intro v2 v3 M H locs ls  hw hP hS hl; exact False.elim hw
    | succ n20 ih20 =>
      have J_58 : ∀ (v3 : Int32) (s0 : Int32) (M : Mem) (H : Heap) (locs : List Loc) (ls : Array Slot), b_X10_isSnowSo_58 h Q (l_X10_isSnowSo_20 h Q v1 n20) v1 v3 s0 M → va_P G.2.1 clsA (wl G M) H → va_S (inW G) s.heap H locs → lv_has ls 4 [(0, .ref (G.1 + h)), (1, .int v1), (3, .int v3)] → W p l e ({ frames := 6, cells := 0, slots := 0, locals := 144 } : Room) s m ([.ref (G.1 + h), .int a1] : List Value).toArray below meth c H locs 0 0 (MQ below (Pq G (Qi Q)) ([.ref (G.1 + h), .int a1] : List Value).toArray s 0 0 (inW G)) (F0 m 58 ls [.int s0]) := by
        intro v3 s0 M H locs ls  hw hP hS hl
        unfold b_X10_isSnowSo_58 at hw
        refine lv_istore_n (lv' := [(2, .int s0), (0, .ref (G.1 + h)), (1, .int v1), (3, .int v3)]) hx hb dX10_isSnowSo_58 rfl hl (by decide) rfl (fun ls hl => ?_)
        obtain ⟨x_1, ex_1⟩ : ∃ z : Int32, z = v3 + 1 := ⟨_, rfl⟩
        have hw := hw x_1 ex_1
        refine lv_iinc (v := x_1) (lv' := [(3, .int x_1), (2, .int s0), (0, .ref (G.1 + h)), (1, .int v1)]) hx hb dX10_isSnowSo_59 hl (k := 3) rfl (by rw [ex_1]; rfl) (by decide) rfl (fun ls hl => ?_)
        refine lv_goto (tgt := 20) hx hb dX10_isSnowSo_62 (by decide) ?_
        exact ih20 s0 x_1 M _ _ _ hw hP hS (lv_sub hl [2, 3, 1, 0] rfl)
      have J_57 : ∀ (v3 : Int32) (M : Mem) (H : Heap) (locs : List Loc) (ls : Array Slot), b_X10_isSnowSo_57 h Q (l_X10_isSnowSo_20 h Q v1 n20) v1 v3 M → va_P G.2.1 clsA (wl G M) H → va_S (inW G) s.heap H locs → lv_has ls 4 [(0, .ref (G.1 + h)), (1, .int v1), (3, .int v3)] → W p l e ({ frames := 6, cells := 0, slots := 0, locals := 144 } : Room) s m ([.ref (G.1 + h), .int a1] : List Value).toArray below meth c H locs 0 0 (MQ below (Pq G (Qi Q)) ([.ref (G.1 + h), .int a1] : List Value).toArray s 0 0 (inW G)) (F0 m 57 ls []) := by
        intro v3 M H locs ls  hw hP hS hl
        unfold b_X10_isSnowSo_57 at hw
        refine lv_iconst (v := 0) hx hb dX10_isSnowSo_57 (by decide) ?_
        exact J_58 v3 0 M _ _ _ hw hP hS (lv_sub hl [0, 1, 2] rfl)
      intro v2 v3 M H locs ls  hw hP hS hl
      have hw : B_X10_isSnowSo_20 h Q v1 (l_X10_isSnowSo_20 h Q v1 n20) v2 v3 M := hw
      unfold B_X10_isSnowSo_20 at hw
      refine lv_iload_n hx hb dX10_isSnowSo_20 rfl (lv_at hl 3 rfl) ?_
      refine lv_bipush (v := 10) hx hb dX10_isSnowSo_21 (by decide) ?_
      refine lv_icmp_ge (tgt := 65) hx hb dX10_isSnowSo_23 (by decide) (fun c_2 => ?_) (fun c_2 => ?_)
      · have hw := hw.1 c_2
        refine lv_aload_n hx hb dX10_isSnowSo_65 rfl (lv_at hl 0 rfl) ?_
        refine lv_aload_n hx hb dX10_isSnowSo_66 rfl (lv_at hl 0 rfl) ?_
        refine mw_get (ci := 10) (v := .ref (G.1 + (h + 3))) (C := RX10) (T := TX10) (N := 25) hx hb ht inX10 hown hSt hP kh (by decide) (mk10 kh) rfl 2 (by decide) (ht _ wf_RX10_16) rfl rfl dX10_isSnowSo_67 ?_
        refine lv_aload_n hx hb dX10_isSnowSo_70 rfl (lv_at hl 0 rfl) ?_
        refine mw_get (ci := 10) (v := .ref (G.1 + (h + 1))) (C := RX10) (T := TX10) (N := 25) hx hb ht inX10 hown hSt hP kh (by decide) (mk10 kh) rfl 0 (by decide) (ht _ wf_RX10_7) rfl rfl dX10_isSnowSo_71 ?_
        refine mw_V (As := [.ref (G.1 + (h + 3)), .ref (G.1 + (h + 1))]) (rest := []) (T := TX10) (N := 25) (n := 2) ⟨hx, hb, hml, hown, hts⟩ (so_X10_moveAll l G h (h + 3) (h + 1) M _ hw) wm_RX10_188 wi_yX10_moveAll wv_yX10_moveAll wn_RX10 wc_yX10_moveAll (by decide) ⟨Nat.le_of_ble_eq_true rfl, Nat.le_of_ble_eq_true rfl⟩ ⟨rfl, rfl⟩ kh (by decide) (mk10 kh) rfl hSt hTb hP hS rfl hl.1 rfl (Nat.le_of_ble_eq_true rfl) dX10_isSnowSo_74 ⟨Nat.le_refl 0, Nat.le_refl 0⟩ (fun rr_ M_3 H locs hq hP hS => ?_)
        obtain ⟨rfl, hw⟩ := hq
        refine lv_iload_n hx hb dX10_isSnowSo_77 rfl (lv_at hl 2 rfl) ?_
        obtain ⟨c_4, hw⟩ := hw
        exact W.zret hx hb hr c_4.narrow (mw_end hP hSt hTb hS ⟨_, rfl, hw⟩) hS.2.2 dX10_isSnowSo_78
      · have hw := hw.2 c_2
        refine lv_iload_n hx hb dX10_isSnowSo_26 rfl (lv_at hl 2 rfl) ?_
        refine lv_if_eq (tgt := 57) hx hb dX10_isSnowSo_27 (by decide) (fun c_5 => ?_) (fun c_5 => ?_)
        · have hw := hw.1 c_5
          exact J_57 v3 M _ _ _ hw hP hS (lv_sub hl [0, 1, 3] rfl)
        · have hw := hw.2 c_5
          refine lv_aload_n hx hb dX10_isSnowSo_30 rfl (lv_at hl 0 rfl) ?_
          refine mw_get (ci := 10) (v := .ref (G.1 + (h + 1))) (C := RX10) (T := TX10) (N := 25) hx hb ht inX10 hown hSt hP kh (by decide) (mk10 kh) rfl 0 (by decide) (ht _ wf_RX10_7) rfl rfl dX10_isSnowSo_31 ?_
          refine lv_bipush (v := 8) hx hb dX10_isSnowSo_34 (by decide) ?_
          refine lv_iload_n hx hb dX10_isSnowSo_36 rfl (lv_at hl 3 rfl) ?_
          refine lv_iadd hx hb dX10_isSnowSo_37 ?_
          obtain ⟨c_6, hw⟩ := hw
          refine mw_iald hx hb hSt hP (ks10_0 kh) (by rw [(ln10_0 kh)]; exact c_6) dX10_isSnowSo_38 ?_
          refine lv_aload_n hx hb dX10_isSnowSo_39 rfl (lv_at hl 0 rfl) ?_
          refine mw_get (ci := 10) (v := .ref (G.1 + (h + 11))) (C := RX10) (T := TX10) (N := 25) hx hb ht inX10 hown hSt hP kh (by decide) (mk10 kh) rfl 18 (by decide) (ht _ wf_RX10_40) rfl rfl dX10_isSnowSo_40 ?_
          refine lv_bipush (v := 40) hx hb dX10_isSnowSo_43 (by decide) ?_
          refine lv_iload_n hx hb dX10_isSnowSo_45 rfl (lv_at hl 1 rfl) ?_
          refine lv_imul hx hb dX10_isSnowSo_46 ?_
          refine lv_iload_n hx hb dX10_isSnowSo_47 rfl (lv_at hl 3 rfl) ?_
          refine lv_iadd hx hb dX10_isSnowSo_48 ?_
          obtain ⟨c_7, hw⟩ := hw
          refine mw_iald hx hb hSt hP (ks10_18 kh) (by rw [(ln10_18 kh)]; exact c_7) dX10_isSnowSo_49 ?_
          refine lv_icmp_ne (tgt := 57) hx hb dX10_isSnowSo_50 (by decide) (fun c_8 => ?_) (fun c_8 => ?_)
          · have hw := hw.1 c_8
            exact J_57 v3 M _ _ _ hw hP hS (lv_sub hl [0, 1, 3] rfl)
          · have hw := hw.2 c_8
            refine lv_iconst (v := 1) hx hb dX10_isSnowSo_53 (by decide) ?_
            refine lv_goto (tgt := 58) hx hb dX10_isSnowSo_54 (by decide) ?_
            exact J_58 v3 1 M _ _ _ hw hP hS (lv_sub hl [0, 1, 3] rfl)
  refine lv_iconst (v := 1) hx hb dX10_isSnowSo_0 (by decide) ?_
  refine lv_istore_n (lv' := [(2, .int 1), (0, .ref (G.1 + h)), (1, .int a1)]) hx hb dX10_isSnowSo_1 rfl hl (by decide) rfl (fun ls hl => ?_)
  refine lv_aload_n hx hb dX10_isSnowSo_2 rfl (lv_at hl 1 rfl) ?_
  refine lv_aload_n hx hb dX10_isSnowSo_3 rfl (lv_at hl 1 rfl) ?_
  refine mw_get (ci := 10) (v := .ref (G.1 + (h + 1))) (C := RX10) (T := TX10) (N := 25) hx hb ht inX10 hown hSt hP kh (by decide) (mk10 kh) rfl 0 (by decide) (ht _ wf_RX10_7) rfl rfl dX10_isSnowSo_4 ?_
  refine lv_aload_n hx hb dX10_isSnowSo_7 rfl (lv_at hl 1 rfl) ?_
  refine mw_get (ci := 10) (v := .ref (G.1 + (h + 3))) (C := RX10) (T := TX10) (N := 25) hx hb ht inX10 hown hSt hP kh (by decide) (mk10 kh) rfl 2 (by decide) (ht _ wf_RX10_16) rfl rfl dX10_isSnowSo_8 ?_
  refine mw_V (As := [.ref (G.1 + (h + 1)), .ref (G.1 + (h + 3))]) (rest := []) (T := TX10) (N := 25) (n := 2) ⟨hx, hb, hml, hown, hts⟩ (so_X10_moveAll l G h (h + 1) (h + 3) M _ hw) wm_RX10_188 wi_yX10_moveAll wv_yX10_moveAll wn_RX10 wc_yX10_moveAll (by decide) ⟨Nat.le_of_ble_eq_true rfl, Nat.le_of_ble_eq_true rfl⟩ ⟨rfl, rfl⟩ kh (by decide) (mk10 kh) rfl hSt hTb hP hS rfl hl.1 rfl (Nat.le_of_ble_eq_true rfl) dX10_isSnowSo_11 ⟨Nat.le_refl 0, Nat.le_refl 0⟩ (fun rr_ M_9 H locs hq hP hS => ?_)
  obtain ⟨rfl, hw⟩ := hq
  refine lv_aload_n hx hb dX10_isSnowSo_14 rfl (lv_at hl 1 rfl) ?_
  refine mw_V (As := []) (rest := []) (T := TX10) (N := 25) (n := 0) ⟨hx, hb, hml, hown, hts⟩ (so_X10_oneHour l G h M_9 _ hw) wm_RX10_185 wi_yX10_oneHour wv_yX10_oneHour wn_RX10 wc_yX10_oneHour (by decide) ⟨Nat.le_of_ble_eq_true rfl, Nat.le_of_ble_eq_true rfl⟩ ⟨rfl, rfl⟩ kh (by decide) (mk10 kh) rfl hSt hTb hP hS rfl hl.1 rfl (Nat.le_of_ble_eq_true rfl) dX10_isSnowSo_15 ⟨Nat.le_refl 0, Nat.le_refl 0⟩ (fun rr_ M_10 H locs hq hP hS => ?_)
  obtain ⟨rfl, hw⟩ := hq
  refine lv_iconst (v := 0) hx hb dX10_isSnowSo_18 (by decide) ?_
  refine lv_istore_n (lv' := [(3, .int 0), (2, .int 1), (0, .ref (G.1 + h)), (1, .int a1)]) hx hb dX10_isSnowSo_19 rfl hl (by decide) rfl (fun ls hl => ?_)
  obtain ⟨n_, hw⟩ := hw
  exact L_20 a1 n_ 1 0 M_10 _ _ _ hw hP hS (lv_sub hl [2, 3, 1, 0] rfl)
def b_X10_lies_105 (h : Nat) (Q : Int32 → Mem → Prop) (K72 : Int32 → Int32 → Mem → Prop) (v1 : Int32) (v2 : Int32) (v3 : Int32) (v4 : Int32) (v6 : Int32) (s0 : Int32) (s1 : Int32) (M : Mem) : Prop :=
  ∀ x_1, x_1 = s0 ||| s1 → ∀ x_2 : Int32, x_2 = v6 + 1 → K72 x_1 x_2 M
def B_X10_lies_72 (h : Nat) (Q : Int32 → Mem → Prop) (v1 : Int32) (v2 : Int32) (v3 : Int32) (v4 : Int32) (K72 : Int32 → Int32 → Mem → Prop) (v5 : Int32) (v6 : Int32) (M : Mem) : Prop :=
  (10 ≤ v6 → wp_X10_gets h v2 2 v4 M (fun M_4 => (¬ v3 = 0 → wp_X10_bits v5 M_4 (fun r_7 M_6 => Q r_7 M_6)) ∧ (v3 = 0 → Q v5 M_4))) ∧ (¬ 10 ≤ v6 → wp_X10_gets h v2 2 v6 M (fun M_8 => wp_X10_isSnowSo h v1 M_8 (fun r_10 M_9 => (r_10 = 0 → b_X10_lies_105 h Q K72 v1 v2 v3 v4 v6 v5 0 M_9) ∧ (¬ r_10 = 0 → b_X10_lies_105 h Q K72 v1 v2 v3 v4 v6 v5 (ish 1 v6) M_9))))
def l_X10_lies_72 (h : Nat) (Q : Int32 → Mem → Prop) (v1 : Int32) (v2 : Int32) (v3 : Int32) (v4 : Int32) : Nat → Int32 → Int32 → Mem → Prop
  | 0 => fun _ _ _ => False
  | n + 1 => B_X10_lies_72 h Q v1 v2 v3 v4 (l_X10_lies_72 h Q v1 v2 v3 v4 n)
def b_X10_lies_51 (h : Nat) (Q : Int32 → Mem → Prop) (M : Mem) : Prop :=
  wp_X10_errs h (-1000000002) M (fun r_13 M_12 => Q r_13 M_12)
def b_X10_lies_24 (h : Nat) (Q : Int32 → Mem → Prop) (M : Mem) : Prop :=
  wp_X10_errs h (-1000000001) M (fun r_15 M_14 => Q r_15 M_14)
def wp_X10_lies (h : Nat) (a1 : Int32) (a2 : Int32) (a3 : Int32) (M : Mem) (Q : Int32 → Mem → Prop) : Prop :=
  kdT h = 10 ∧ (wp_X10_isSheet a1 M (fun r_17 M_16 => (r_17 = 0 → b_X10_lies_24 h Q M_16) ∧ (¬ r_17 = 0 → wp_X10_isSheep h a2 M_16 (fun r_20 M_19 => (r_20 = 0 → b_X10_lies_24 h Q M_19) ∧ (¬ r_20 = 0 → wp_X10_in a3 0 1 M_19 (fun r_23 M_22 => (¬ r_23 = 0 → vp_in a1 4 ∧ (((M_22 (h + 9) a1.toNatClampNeg) = 0 → b_X10_lies_51 h Q M_22) ∧ (¬ (M_22 (h + 9) a1.toNatClampNeg) = 0 → vp_in a1 4 ∧ (((M_22 (h + 10) a1.toNatClampNeg) = 10 → wp_X10_its h a2 2 M_22 (fun r_30 M_29 => ∃ n, l_X10_lies_72 h Q a1 a2 a3 r_30 n 0 0 M_29)) ∧ (¬ (M_22 (h + 10) a1.toNatClampNeg) = 10 → b_X10_lies_51 h Q M_22))))) ∧ (r_23 = 0 → b_X10_lies_24 h Q M_22)))))))
set_option maxHeartbeats 4000000 in
set_option maxRecDepth 100000 in
theorem so_X10_lies (l : Launch) (G : Gm) (h : Nat) (a1 : Int32) (a2 : Int32) (a3 : Int32) (M : Mem) (Q : Int32 → Mem → Prop) (hw : wp_X10_lies h a1 a2 a3 M Q) : Ct l G yX10_lies cX10_lies 7 (some .int) ({ frames := 7, cells := 0, slots := 0, locals := 167 } : Room) [.ref (G.1 + h), .int a1, .int a2, .int a3] M (Qi Q) := by
  unfold wp_X10_lies at hw
  obtain ⟨kh, hw⟩ := hw
  refine ct_of (by decide) (Nat.le_of_ble_eq_true rfl) ?_
  intro p e s m below meth c E_ ls H hl hP hS
  obtain ⟨hx, hb, hml, hown, hts, ht, hr, hlocks, hSt, hTb⟩ := E_
  have hl : lv_has ls 7 [(0, .ref (G.1 + h)), (1, .int a1), (2, .int a2), (3, .int a3)] := hl
  have L_72 : ∀ (v1 : Int32) (v2 : Int32) (v3 : Int32) (v4 : Int32), ∀ (n72 : Nat) (v5 : Int32) (v6 : Int32) (M : Mem) (H : Heap) (locs : List Loc) (ls : Array Slot), l_X10_lies_72 h Q v1 v2 v3 v4 n72 v5 v6 M → va_P G.2.1 clsA (wl G M) H → va_S (inW G) s.heap H locs → lv_has ls 7 [(0, .ref (G.1 + h)), (1, .int v1), (2, .int v2), (3, .int v3), (4, .int v4), (5, .int v5), (6, .int v6)] → W p l e ({ frames := 7, cells := 0, slots := 0, locals := 167 } : Room) s m ([.ref (G.1 + h), .int a1, .int a2, .int a3] : List Value).toArray below meth c H locs 0 0 (MQ below (Pq G (Qi Q)) ([.ref (G.1 + h), .int a1, .int a2, .int a3] : List Value).toArray s 0 0 (inW G)) (F0 m 72 ls []) := by
    intro v1 v2 v3 v4  n72
    induction n72 with
    | zero => intro v5 v6 M H locs ls  hw hP hS hl; exact False.elim hw
    | succ n72 ih72 =>
      have J_105 : ∀ (v6 : Int32) (s0 : Int32) (s1 : Int32) (M : Mem) (H : Heap) (locs : List Loc) (ls : Array Slot), b_X10_lies_105 h Q (l_X10_lies_72 h Q v1 v2 v3 v4 n72) v1 v2 v3 v4 v6 s0 s1 M → va_P G.2.1 clsA (wl G M) H → va_S (inW G) s.heap H locs → lv_has ls 7 [(0, .ref (G.1 + h)), (1, .int v1), (2, .int v2), (3, .int v3), (4, .int v4), (6, .int v6)] → W p l e ({ frames := 7, cells := 0, slots := 0, locals := 167 } : Room) s m ([.ref (G.1 + h), .int a1, .int a2, .int a3] : List Value).toArray below meth c H locs 0 0 (MQ below (Pq G (Qi Q)) ([.ref (G.1 + h), .int a1, .int a2, .int a3] : List Value).toArray s 0 0 (inW G)) (F0 m 105 ls [.int s1, .int s0]) := by
        intro v6 s0 s1 M H locs ls  hw hP hS hl
        unfold b_X10_lies_105 at hw
        refine lv_ior hx hb dX10_lies_105 ?_
        refine lv_topi (fun x_1 ex_1 => ?_)
        have hw := hw x_1 ex_1
        refine lv_istore (lv' := [(5, .int x_1), (0, .ref (G.1 + h)), (1, .int v1), (2, .int v2), (3, .int v3), (4, .int v4), (6, .int v6)]) hx hb dX10_lies_106 hl (by decide) rfl (fun ls hl => ?_)
        obtain ⟨x_2, ex_2⟩ : ∃ z : Int32, z = v6 + 1 := ⟨_, rfl⟩
        have hw := hw x_2 ex_2
        refine lv_iinc (v := x_2) (lv' := [(6, .int x_2), (5, .int x_1), (0, .ref (G.1 + h)), (1, .int v1), (2, .int v2), (3, .int v3), (4, .int v4)]) hx hb dX10_lies_108 hl (k := 6) rfl (by rw [ex_2]; rfl) (by decide) rfl (fun ls hl => ?_)
        refine lv_goto (tgt := 72) hx hb dX10_lies_111 (by decide) ?_
        exact ih72 x_1 x_2 M _ _ _ hw hP hS (lv_sub hl [2, 3, 4, 5, 6, 1, 0] rfl)
      intro v5 v6 M H locs ls  hw hP hS hl
      have hw : B_X10_lies_72 h Q v1 v2 v3 v4 (l_X10_lies_72 h Q v1 v2 v3 v4 n72) v5 v6 M := hw
      unfold B_X10_lies_72 at hw
      refine lv_iload hx hb dX10_lies_72 (lv_at hl 6 rfl) ?_
      refine lv_bipush (v := 10) hx hb dX10_lies_74 (by decide) ?_
      refine lv_icmp_ge (tgt := 114) hx hb dX10_lies_76 (by decide) (fun c_3 => ?_) (fun c_3 => ?_)
      · have hw := hw.1 c_3
        refine lv_aload_n hx hb dX10_lies_114 rfl (lv_at hl 0 rfl) ?_
        refine lv_iload_n hx hb dX10_lies_115 rfl (lv_at hl 2 rfl) ?_
        refine lv_iconst (v := 2) hx hb dX10_lies_116 (by decide) ?_
        refine lv_iload hx hb dX10_lies_117 (lv_at hl 4 rfl) ?_
        refine mw_V (As := [.int v2, .int 2, .int v4]) (rest := []) (T := TX10) (N := 25) (n := 3) ⟨hx, hb, hml, hown, hts⟩ (so_X10_gets l G h v2 2 v4 M _ hw) wm_RX10_87 wi_yX10_gets wv_yX10_gets wn_RX10 wc_yX10_gets (by decide) ⟨Nat.le_of_ble_eq_true rfl, Nat.le_of_ble_eq_true rfl⟩ ⟨rfl, rfl⟩ kh (by decide) (mk10 kh) rfl hSt hTb hP hS rfl hl.1 rfl (Nat.le_of_ble_eq_true rfl) dX10_lies_119 ⟨Nat.le_refl 0, Nat.le_refl 0⟩ (fun rr_ M_4 H locs hq hP hS => ?_)
        obtain ⟨rfl, hw⟩ := hq
        refine lv_iload_n hx hb dX10_lies_122 rfl (lv_at hl 3 rfl) ?_
        refine lv_if_ne (tgt := 131) hx hb dX10_lies_123 (by decide) (fun c_5 => ?_) (fun c_5 => ?_)
        · have hw := hw.1 c_5
          refine lv_iload hx hb dX10_lies_131 (lv_at hl 5 rfl) ?_
          refine mw_Sx (As := [.int v5]) (rest := []) (n := 1) ⟨hx, hb, hml, hown, hts⟩ (so_X10_bits l G v5 M_4 _ hw) wm_RX10_173 wt_yX10_bits wn_RX10 wc_yX10_bits (by decide) ⟨Nat.le_of_ble_eq_true rfl, Nat.le_of_ble_eq_true rfl⟩ ⟨rfl, rfl⟩ hSt hTb hP hS rfl hl.1 rfl (Nat.le_of_ble_eq_true rfl) dX10_lies_133 ⟨Nat.le_refl 0, Nat.le_refl 0⟩ (fun rr_ M_6 H locs hq hP hS => ?_)
          obtain ⟨r_7, rfl, hw⟩ := hq
          exact W.iret hx hb hr (mw_end hP hSt hTb hS ⟨_, rfl, hw⟩) hS.2.2 dX10_lies_136
        · have hw := hw.2 c_5
          refine lv_iload hx hb dX10_lies_126 (lv_at hl 5 rfl) ?_
          refine lv_goto (tgt := 136) hx hb dX10_lies_128 (by decide) ?_
          exact W.iret hx hb hr (mw_end hP hSt hTb hS ⟨_, rfl, hw⟩) hS.2.2 dX10_lies_136
      · have hw := hw.2 c_3
        refine lv_aload_n hx hb dX10_lies_79 rfl (lv_at hl 0 rfl) ?_
        refine lv_iload_n hx hb dX10_lies_80 rfl (lv_at hl 2 rfl) ?_
        refine lv_iconst (v := 2) hx hb dX10_lies_81 (by decide) ?_
        refine lv_iload hx hb dX10_lies_82 (lv_at hl 6 rfl) ?_
        refine mw_V (As := [.int v2, .int 2, .int v6]) (rest := []) (T := TX10) (N := 25) (n := 3) ⟨hx, hb, hml, hown, hts⟩ (so_X10_gets l G h v2 2 v6 M _ hw) wm_RX10_87 wi_yX10_gets wv_yX10_gets wn_RX10 wc_yX10_gets (by decide) ⟨Nat.le_of_ble_eq_true rfl, Nat.le_of_ble_eq_true rfl⟩ ⟨rfl, rfl⟩ kh (by decide) (mk10 kh) rfl hSt hTb hP hS rfl hl.1 rfl (Nat.le_of_ble_eq_true rfl) dX10_lies_84 ⟨Nat.le_refl 0, Nat.le_refl 0⟩ (fun rr_ M_8 H locs hq hP hS => ?_)
        obtain ⟨rfl, hw⟩ := hq
        refine lv_iload hx hb dX10_lies_87 (lv_at hl 5 rfl) ?_
        refine lv_aload_n hx hb dX10_lies_89 rfl (lv_at hl 0 rfl) ?_
        refine lv_iload_n hx hb dX10_lies_90 rfl (lv_at hl 1 rfl) ?_
        refine mw_V (As := [.int v1]) (rest := [.int v5]) (T := TX10) (N := 25) (n := 1) ⟨hx, hb, hml, hown, hts⟩ (so_X10_isSnowSo l G h v1 M_8 _ hw) wm_RX10_211 wi_yX10_isSnowSo wv_yX10_isSnowSo wn_RX10 wc_yX10_isSnowSo (by decide) ⟨Nat.le_of_ble_eq_true rfl, Nat.le_of_ble_eq_true rfl⟩ ⟨rfl, rfl⟩ kh (by decide) (mk10 kh) rfl hSt hTb hP hS rfl hl.1 rfl (Nat.le_of_ble_eq_true rfl) dX10_lies_91 ⟨Nat.le_refl 0, Nat.le_refl 0⟩ (fun rr_ M_9 H locs hq hP hS => ?_)
        obtain ⟨r_10, rfl, hw⟩ := hq
        refine lv_if_eq (tgt := 104) hx hb dX10_lies_94 (by decide) (fun c_11 => ?_) (fun c_11 => ?_)
        · have hw := hw.1 c_11
          refine lv_iconst (v := 0) hx hb dX10_lies_104 (by decide) ?_
          exact J_105 v6 v5 0 M_9 _ _ _ hw hP hS (lv_sub hl [0, 1, 2, 3, 4, 6] rfl)
        · have hw := hw.2 c_11
          refine lv_iconst (v := 1) hx hb dX10_lies_97 (by decide) ?_
          refine lv_iload hx hb dX10_lies_98 (lv_at hl 6 rfl) ?_
          refine lv_ishl hx hb dX10_lies_100 ?_
          refine lv_goto (tgt := 105) hx hb dX10_lies_101 (by decide) ?_
          exact J_105 v6 v5 (ish 1 v6) M_9 _ _ _ hw hP hS (lv_sub hl [0, 1, 2, 3, 4, 6] rfl)
  have J_51 : ∀  (M : Mem) (H : Heap) (locs : List Loc) (ls : Array Slot), b_X10_lies_51 h Q M → va_P G.2.1 clsA (wl G M) H → va_S (inW G) s.heap H locs → lv_has ls 7 [(0, .ref (G.1 + h))] → W p l e ({ frames := 7, cells := 0, slots := 0, locals := 167 } : Room) s m ([.ref (G.1 + h), .int a1, .int a2, .int a3] : List Value).toArray below meth c H locs 0 0 (MQ below (Pq G (Qi Q)) ([.ref (G.1 + h), .int a1, .int a2, .int a3] : List Value).toArray s 0 0 (inW G)) (F0 m 51 ls []) := by
    intro  M H locs ls  hw hP hS hl
    unfold b_X10_lies_51 at hw
    refine lv_aload_n hx hb dX10_lies_51 rfl (lv_at hl 0 rfl) ?_
    refine lv_ldc (v := (-1000000002)) hx hb hown (ht _ wk_RX10_204) dX10_lies_52 ?_
    refine mw_V (As := [.int (-1000000002)]) (rest := []) (T := TX10) (N := 25) (n := 1) ⟨hx, hb, hml, hown, hts⟩ (so_X10_errs l G h (-1000000002) M _ hw) wm_RX10_63 wi_yX10_errs wv_yX10_errs wn_RX10 wc_yX10_errs (by decide) ⟨Nat.le_of_ble_eq_true rfl, Nat.le_of_ble_eq_true rfl⟩ ⟨rfl, rfl⟩ kh (by decide) (mk10 kh) rfl hSt hTb hP hS rfl hl.1 rfl (Nat.le_of_ble_eq_true rfl) dX10_lies_54 ⟨Nat.le_refl 0, Nat.le_refl 0⟩ (fun rr_ M_12 H locs hq hP hS => ?_)
    obtain ⟨r_13, rfl, hw⟩ := hq
    exact W.iret hx hb hr (mw_end hP hSt hTb hS ⟨_, rfl, hw⟩) hS.2.2 dX10_lies_57
  have J_24 : ∀  (M : Mem) (H : Heap) (locs : List Loc) (ls : Array Slot), b_X10_lies_24 h Q M → va_P G.2.1 clsA (wl G M) H → va_S (inW G) s.heap H locs → lv_has ls 7 [(0, .ref (G.1 + h))] → W p l e ({ frames := 7, cells := 0, slots := 0, locals := 167 } : Room) s m ([.ref (G.1 + h), .int a1, .int a2, .int a3] : List Value).toArray below meth c H locs 0 0 (MQ below (Pq G (Qi Q)) ([.ref (G.1 + h), .int a1, .int a2, .int a3] : List Value).toArray s 0 0 (inW G)) (F0 m 24 ls []) := by
    intro  M H locs ls  hw hP hS hl
    unfold b_X10_lies_24 at hw
    refine lv_aload_n hx hb dX10_lies_24 rfl (lv_at hl 0 rfl) ?_
    refine lv_ldc (v := (-1000000001)) hx hb hown (ht _ wk_RX10_62) dX10_lies_25 ?_
    refine mw_V (As := [.int (-1000000001)]) (rest := []) (T := TX10) (N := 25) (n := 1) ⟨hx, hb, hml, hown, hts⟩ (so_X10_errs l G h (-1000000001) M _ hw) wm_RX10_63 wi_yX10_errs wv_yX10_errs wn_RX10 wc_yX10_errs (by decide) ⟨Nat.le_of_ble_eq_true rfl, Nat.le_of_ble_eq_true rfl⟩ ⟨rfl, rfl⟩ kh (by decide) (mk10 kh) rfl hSt hTb hP hS rfl hl.1 rfl (Nat.le_of_ble_eq_true rfl) dX10_lies_27 ⟨Nat.le_refl 0, Nat.le_refl 0⟩ (fun rr_ M_14 H locs hq hP hS => ?_)
    obtain ⟨r_15, rfl, hw⟩ := hq
    exact W.iret hx hb hr (mw_end hP hSt hTb hS ⟨_, rfl, hw⟩) hS.2.2 dX10_lies_30
  refine lv_iload_n hx hb dX10_lies_0 rfl (lv_at hl 1 rfl) ?_
  refine mw_Sx (As := [.int a1]) (rest := []) (n := 1) ⟨hx, hb, hml, hown, hts⟩ (so_X10_isSheet l G a1 M _ hw) wm_RX10_208 wt_yX10_isSheet wn_RX10 wc_yX10_isSheet (by decide) ⟨Nat.le_of_ble_eq_true rfl, Nat.le_of_ble_eq_true rfl⟩ ⟨rfl, rfl⟩ hSt hTb hP hS rfl hl.1 rfl (Nat.le_of_ble_eq_true rfl) dX10_lies_1 ⟨Nat.le_refl 0, Nat.le_refl 0⟩ (fun rr_ M_16 H locs hq hP hS => ?_)
  obtain ⟨r_17, rfl, hw⟩ := hq
  refine lv_if_eq (tgt := 24) hx hb dX10_lies_4 (by decide) (fun c_18 => ?_) (fun c_18 => ?_)
  · have hw := hw.1 c_18
    exact J_24 M_16 _ _ _ hw hP hS (lv_sub hl [0] rfl)
  · have hw := hw.2 c_18
    refine lv_aload_n hx hb dX10_lies_7 rfl (lv_at hl 0 rfl) ?_
    refine lv_iload_n hx hb dX10_lies_8 rfl (lv_at hl 2 rfl) ?_
    refine mw_V (As := [.int a2]) (rest := []) (T := TX10) (N := 25) (n := 1) ⟨hx, hb, hml, hown, hts⟩ (so_X10_isSheep l G h a2 M_16 _ hw) wm_RX10_91 wi_yX10_isSheep wv_yX10_isSheep wn_RX10 wc_yX10_isSheep (by decide) ⟨Nat.le_of_ble_eq_true rfl, Nat.le_of_ble_eq_true rfl⟩ ⟨rfl, rfl⟩ kh (by decide) (mk10 kh) rfl hSt hTb hP hS rfl hl.1 rfl (Nat.le_of_ble_eq_true rfl) dX10_lies_9 ⟨Nat.le_refl 0, Nat.le_refl 0⟩ (fun rr_ M_19 H locs hq hP hS => ?_)
    obtain ⟨r_20, rfl, hw⟩ := hq
    refine lv_if_eq (tgt := 24) hx hb dX10_lies_12 (by decide) (fun c_21 => ?_) (fun c_21 => ?_)
    · have hw := hw.1 c_21
      exact J_24 M_19 _ _ _ hw hP hS (lv_sub hl [0] rfl)
    · have hw := hw.2 c_21
      refine lv_iload_n hx hb dX10_lies_15 rfl (lv_at hl 3 rfl) ?_
      refine lv_iconst (v := 0) hx hb dX10_lies_16 (by decide) ?_
      refine lv_iconst (v := 1) hx hb dX10_lies_17 (by decide) ?_
      refine mw_Sx (As := [.int a3, .int 0, .int 1]) (rest := []) (n := 3) ⟨hx, hb, hml, hown, hts⟩ (so_X10_in l G a3 0 1 M_19 _ hw) wm_RX10_50 wt_yX10_in wn_RX10 wc_yX10_in (by decide) ⟨Nat.le_of_ble_eq_true rfl, Nat.le_of_ble_eq_true rfl⟩ ⟨rfl, rfl⟩ hSt hTb hP hS rfl hl.1 rfl (Nat.le_of_ble_eq_true rfl) dX10_lies_18 ⟨Nat.le_refl 0, Nat.le_refl 0⟩ (fun rr_ M_22 H locs hq hP hS => ?_)
      obtain ⟨r_23, rfl, hw⟩ := hq
      refine lv_if_ne (tgt := 31) hx hb dX10_lies_21 (by decide) (fun c_24 => ?_) (fun c_24 => ?_)
      · have hw := hw.1 c_24
        refine lv_aload_n hx hb dX10_lies_31 rfl (lv_at hl 0 rfl) ?_
        refine mw_get (ci := 10) (v := .ref (G.1 + (h + 9))) (C := RX10) (T := TX10) (N := 25) hx hb ht inX10 hown hSt hP kh (by decide) (mk10 kh) rfl 16 (by decide) (ht _ wf_RX10_34) rfl rfl dX10_lies_32 ?_
        refine lv_iload_n hx hb dX10_lies_35 rfl (lv_at hl 1 rfl) ?_
        obtain ⟨c_25, hw⟩ := hw
        refine mw_iald hx hb hSt hP (ks10_16 kh) (by rw [(ln10_16 kh)]; exact c_25) dX10_lies_36 ?_
        refine lv_if_eq (tgt := 51) hx hb dX10_lies_37 (by decide) (fun c_26 => ?_) (fun c_26 => ?_)
        · have hw := hw.1 c_26
          exact J_51 M_22 _ _ _ hw hP hS (lv_sub hl [0] rfl)
        · have hw := hw.2 c_26
          refine lv_aload_n hx hb dX10_lies_40 rfl (lv_at hl 0 rfl) ?_
          refine mw_get (ci := 10) (v := .ref (G.1 + (h + 10))) (C := RX10) (T := TX10) (N := 25) hx hb ht inX10 hown hSt hP kh (by decide) (mk10 kh) rfl 17 (by decide) (ht _ wf_RX10_37) rfl rfl dX10_lies_41 ?_
          refine lv_iload_n hx hb dX10_lies_44 rfl (lv_at hl 1 rfl) ?_
          obtain ⟨c_27, hw⟩ := hw
          refine mw_iald hx hb hSt hP (ks10_17 kh) (by rw [(ln10_17 kh)]; exact c_27) dX10_lies_45 ?_
          refine lv_bipush (v := 10) hx hb dX10_lies_46 (by decide) ?_
          refine lv_icmp_eq (tgt := 58) hx hb dX10_lies_48 (by decide) (fun c_28 => ?_) (fun c_28 => ?_)
          · have hw := hw.1 c_28
            refine lv_aload_n hx hb dX10_lies_58 rfl (lv_at hl 0 rfl) ?_
            refine lv_iload_n hx hb dX10_lies_59 rfl (lv_at hl 2 rfl) ?_
            refine lv_iconst (v := 2) hx hb dX10_lies_60 (by decide) ?_
            refine mw_V (As := [.int a2, .int 2]) (rest := []) (T := TX10) (N := 25) (n := 2) ⟨hx, hb, hml, hown, hts⟩ (so_X10_its l G h a2 2 M_22 _ hw) wm_RX10_67 wi_yX10_its wv_yX10_its wn_RX10 wc_yX10_its (by decide) ⟨Nat.le_of_ble_eq_true rfl, Nat.le_of_ble_eq_true rfl⟩ ⟨rfl, rfl⟩ kh (by decide) (mk10 kh) rfl hSt hTb hP hS rfl hl.1 rfl (Nat.le_of_ble_eq_true rfl) dX10_lies_61 ⟨Nat.le_refl 0, Nat.le_refl 0⟩ (fun rr_ M_29 H locs hq hP hS => ?_)
            obtain ⟨r_30, rfl, hw⟩ := hq
            refine lv_istore (lv' := [(4, .int r_30), (0, .ref (G.1 + h)), (1, .int a1), (2, .int a2), (3, .int a3)]) hx hb dX10_lies_64 hl (by decide) rfl (fun ls hl => ?_)
            refine lv_iconst (v := 0) hx hb dX10_lies_66 (by decide) ?_
            refine lv_istore (lv' := [(5, .int 0), (4, .int r_30), (0, .ref (G.1 + h)), (1, .int a1), (2, .int a2), (3, .int a3)]) hx hb dX10_lies_67 hl (by decide) rfl (fun ls hl => ?_)
            refine lv_iconst (v := 0) hx hb dX10_lies_69 (by decide) ?_
            refine lv_istore (lv' := [(6, .int 0), (5, .int 0), (4, .int r_30), (0, .ref (G.1 + h)), (1, .int a1), (2, .int a2), (3, .int a3)]) hx hb dX10_lies_70 hl (by decide) rfl (fun ls hl => ?_)
            obtain ⟨n_, hw⟩ := hw
            exact L_72 a1 a2 a3 r_30 n_ 0 0 M_29 _ _ _ hw hP hS (lv_sub hl [3, 4, 5, 6, 2, 1, 0] rfl)
          · have hw := hw.2 c_28
            exact J_51 M_22 _ _ _ hw hP hS (lv_sub hl [0] rfl)
      · have hw := hw.2 c_24
        exact J_24 M_22 _ _ _ hw hP hS (lv_sub hl [0] rfl)
def b_X10_order_153 (h : Nat) (Q : Int32 → Mem → Prop) (v2 : Int32) (M : Mem) : Prop :=
  wp_X10_moveAll h (h + 3) (h + 1) M (fun M_1 => Q v2 M_1)
def b_X10_order_147 (h : Nat) (Q : Int32 → Mem → Prop) (K49 : Int32 → Int32 → Int32 → Mem → Prop) (v1 : Int32) (v2 : Int32) (v3 : Int32) (v4 : Int32) (M : Mem) : Prop :=
  ∀ x_2 : Int32, x_2 = v4 + 1 → K49 v2 v3 x_2 M
def b_X10_order_141 (h : Nat) (Q : Int32 → Mem → Prop) (K49 : Int32 → Int32 → Int32 → Mem → Prop) (K67 : Int32 → Int32 → Int32 → Mem → Prop) (v1 : Int32) (v4 : Int32) (v2 : Int32) (v3 : Int32) (v5 : Int32) (M : Mem) : Prop :=
  ∀ x_3 : Int32, x_3 = v5 + 1 → K67 v2 v3 x_3 M
def b_X10_order_139 (h : Nat) (Q : Int32 → Mem → Prop) (K49 : Int32 → Int32 → Int32 → Mem → Prop) (K67 : Int32 → Int32 → Int32 → Mem → Prop) (v1 : Int32) (v4 : Int32) (v3 : Int32) (v5 : Int32) (s0 : Int32) (s1 : Int32) (M : Mem) : Prop :=
  ∀ x_4, x_4 = s0 + s1 → b_X10_order_141 h Q K49 K67 v1 v4 x_4 v3 v5 M
def b_X10_order_128 (h : Nat) (Q : Int32 → Mem → Prop) (K49 : Int32 → Int32 → Int32 → Mem → Prop) (K67 : Int32 → Int32 → Int32 → Mem → Prop) (v1 : Int32) (v4 : Int32) (v2 : Int32) (v5 : Int32) (s0 : Int32) (M : Mem) : Prop :=
  (s0 = 0 → b_X10_order_139 h Q K49 K67 v1 v4 s0 v5 v2 0 M) ∧ (¬ s0 = 0 → b_X10_order_139 h Q K49 K67 v1 v4 s0 v5 v2 1 M)
def b_X10_order_127 (h : Nat) (Q : Int32 → Mem → Prop) (K49 : Int32 → Int32 → Int32 → Mem → Prop) (K67 : Int32 → Int32 → Int32 → Mem → Prop) (v1 : Int32) (v4 : Int32) (v2 : Int32) (v5 : Int32) (M : Mem) : Prop :=
  b_X10_order_128 h Q K49 K67 v1 v4 v2 v5 0 M
def B_X10_order_67 (h : Nat) (Q : Int32 → Mem → Prop) (K49 : Int32 → Int32 → Int32 → Mem → Prop) (v1 : Int32) (v4 : Int32) (K67 : Int32 → Int32 → Int32 → Mem → Prop) (v2 : Int32) (v3 : Int32) (v5 : Int32) (M : Mem) : Prop :=
  ((M (h + 1) 3) ≤ v5 → b_X10_order_147 h Q K49 v1 v2 v3 v4 M) ∧ (¬ (M (h + 1) 3) ≤ v5 → (v3 = 0 → b_X10_order_147 h Q K49 v1 v2 v3 v4 M) ∧ (¬ v3 = 0 → vp_in v5 6 ∧ (((M (h + 8) v5.toNatClampNeg) < 0 → b_X10_order_141 h Q K49 K67 v1 v4 v2 v3 v5 M) ∧ (¬ (M (h + 8) v5.toNatClampNeg) < 0 → vp_in v1 4 ∧ (((M (h + 10) v1.toNatClampNeg) ≤ v2 → b_X10_order_127 h Q K49 K67 v1 v4 v2 v5 M) ∧ (¬ (M (h + 10) v1.toNatClampNeg) ≤ v2 → vp_in ((40 * v1) + v2) 160 ∧ (vp_in v5 6 ∧ ((¬ (M (h + 11) ((40 * v1) + v2).toNatClampNeg) = (M (h + 8) v5.toNatClampNeg) → b_X10_order_127 h Q K49 K67 v1 v4 v2 v5 M) ∧ ((M (h + 11) ((40 * v1) + v2).toNatClampNeg) = (M (h + 8) v5.toNatClampNeg) → b_X10_order_128 h Q K49 K67 v1 v4 v2 v5 1 M)))))))))
def l_X10_order_67 (h : Nat) (Q : Int32 → Mem → Prop) (K49 : Int32 → Int32 → Int32 → Mem → Prop) (v1 : Int32) (v4 : Int32) : Nat → Int32 → Int32 → Int32 → Mem → Prop
  | 0 => fun _ _ _ _ => False
  | n + 1 => B_X10_order_67 h Q K49 v1 v4 (l_X10_order_67 h Q K49 v1 v4 n)
def B_X10_order_49 (h : Nat) (Q : Int32 → Mem → Prop) (v1 : Int32) (K49 : Int32 → Int32 → Int32 → Mem → Prop) (v2 : Int32) (v3 : Int32) (v4 : Int32) (M : Mem) : Prop :=
  (60 ≤ v4 → b_X10_order_153 h Q v2 M) ∧ (¬ 60 ≤ v4 → (v3 = 0 → b_X10_order_153 h Q v2 M) ∧ (¬ v3 = 0 → wp_X10_oneHour h M (fun M_18 => ∃ n, l_X10_order_67 h Q K49 v1 v4 n v2 v3 0 M_18)))
def l_X10_order_49 (h : Nat) (Q : Int32 → Mem → Prop) (v1 : Int32) : Nat → Int32 → Int32 → Int32 → Mem → Prop
  | 0 => fun _ _ _ _ => False
  | n + 1 => B_X10_order_49 h Q v1 (l_X10_order_49 h Q v1 n)
def wp_X10_order (h : Nat) (a1 : Int32) (M : Mem) (Q : Int32 → Mem → Prop) : Prop :=
  kdT h = 10 ∧ (wp_X10_isSheet a1 M (fun r_20 M_19 => (¬ r_20 = 0 → vp_in a1 4 ∧ ((¬ (M_19 (h + 9) a1.toNatClampNeg) = 0 → wp_X10_moveAll h (h + 1) (h + 3) M_19 (fun M_24 => ∃ n, l_X10_order_49 h Q a1 n 0 1 0 M_24)) ∧ ((M_19 (h + 9) a1.toNatClampNeg) = 0 → wp_X10_errs h (-1000000002) M_19 (fun r_26 M_25 => Q r_26 M_25)))) ∧ (r_20 = 0 → wp_X10_errs h (-1000000001) M_19 (fun r_28 M_27 => Q r_28 M_27))))
set_option maxHeartbeats 4000000 in
set_option maxRecDepth 100000 in
theorem so_X10_order (l : Launch) (G : Gm) (h : Nat) (a1 : Int32) (M : Mem) (Q : Int32 → Mem → Prop) (hw : wp_X10_order h a1 M Q) : Ct l G yX10_order cX10_order 6 (some .int) ({ frames := 6, cells := 0, slots := 0, locals := 144 } : Room) [.ref (G.1 + h), .int a1] M (Qi Q) := by
  unfold wp_X10_order at hw
  obtain ⟨kh, hw⟩ := hw
  refine ct_of (by decide) (Nat.le_of_ble_eq_true rfl) ?_
  intro p e s m below meth c E_ ls H hl hP hS
  obtain ⟨hx, hb, hml, hown, hts, ht, hr, hlocks, hSt, hTb⟩ := E_
  have hl : lv_has ls 6 [(0, .ref (G.1 + h)), (1, .int a1)] := hl
  have J_153 : ∀ (v2 : Int32) (M : Mem) (H : Heap) (locs : List Loc) (ls : Array Slot), b_X10_order_153 h Q v2 M → va_P G.2.1 clsA (wl G M) H → va_S (inW G) s.heap H locs → lv_has ls 6 [(0, .ref (G.1 + h)), (2, .int v2)] → W p l e ({ frames := 6, cells := 0, slots := 0, locals := 144 } : Room) s m ([.ref (G.1 + h), .int a1] : List Value).toArray below meth c H locs 0 0 (MQ below (Pq G (Qi Q)) ([.ref (G.1 + h), .int a1] : List Value).toArray s 0 0 (inW G)) (F0 m 153 ls []) := by
    intro v2 M H locs ls  hw hP hS hl
    unfold b_X10_order_153 at hw
    refine lv_aload_n hx hb dX10_order_153 rfl (lv_at hl 0 rfl) ?_
    refine lv_aload_n hx hb dX10_order_154 rfl (lv_at hl 0 rfl) ?_
    refine mw_get (ci := 10) (v := .ref (G.1 + (h + 3))) (C := RX10) (T := TX10) (N := 25) hx hb ht inX10 hown hSt hP kh (by decide) (mk10 kh) rfl 2 (by decide) (ht _ wf_RX10_16) rfl rfl dX10_order_155 ?_
    refine lv_aload_n hx hb dX10_order_158 rfl (lv_at hl 0 rfl) ?_
    refine mw_get (ci := 10) (v := .ref (G.1 + (h + 1))) (C := RX10) (T := TX10) (N := 25) hx hb ht inX10 hown hSt hP kh (by decide) (mk10 kh) rfl 0 (by decide) (ht _ wf_RX10_7) rfl rfl dX10_order_159 ?_
    refine mw_V (As := [.ref (G.1 + (h + 3)), .ref (G.1 + (h + 1))]) (rest := []) (T := TX10) (N := 25) (n := 2) ⟨hx, hb, hml, hown, hts⟩ (so_X10_moveAll l G h (h + 3) (h + 1) M _ hw) wm_RX10_188 wi_yX10_moveAll wv_yX10_moveAll wn_RX10 wc_yX10_moveAll (by decide) ⟨Nat.le_of_ble_eq_true rfl, Nat.le_of_ble_eq_true rfl⟩ ⟨rfl, rfl⟩ kh (by decide) (mk10 kh) rfl hSt hTb hP hS rfl hl.1 rfl (Nat.le_of_ble_eq_true rfl) dX10_order_162 ⟨Nat.le_refl 0, Nat.le_refl 0⟩ (fun rr_ M_1 H locs hq hP hS => ?_)
    obtain ⟨rfl, hw⟩ := hq
    refine lv_iload_n hx hb dX10_order_165 rfl (lv_at hl 1 rfl) ?_
    exact W.iret hx hb hr (mw_end hP hSt hTb hS ⟨_, rfl, hw⟩) hS.2.2 dX10_order_166
  have L_49 : ∀ (v1 : Int32), ∀ (n49 : Nat) (v2 : Int32) (v3 : Int32) (v4 : Int32) (M : Mem) (H : Heap) (locs : List Loc) (ls : Array Slot), l_X10_order_49 h Q v1 n49 v2 v3 v4 M → va_P G.2.1 clsA (wl G M) H → va_S (inW G) s.heap H locs → lv_has ls 6 [(0, .ref (G.1 + h)), (1, .int v1), (2, .int v2), (3, .int v3), (4, .int v4)] → W p l e ({ frames := 6, cells := 0, slots := 0, locals := 144 } : Room) s m ([.ref (G.1 + h), .int a1] : List Value).toArray below meth c H locs 0 0 (MQ below (Pq G (Qi Q)) ([.ref (G.1 + h), .int a1] : List Value).toArray s 0 0 (inW G)) (F0 m 49 ls []) := by
    intro v1  n49
    induction n49 with
    | zero => intro v2 v3 v4 M H locs ls  hw hP hS hl; exact False.elim hw
    | succ n49 ih49 =>
      have J_147 : ∀ (v2 : Int32) (v3 : Int32) (v4 : Int32) (M : Mem) (H : Heap) (locs : List Loc) (ls : Array Slot), b_X10_order_147 h Q (l_X10_order_49 h Q v1 n49) v1 v2 v3 v4 M → va_P G.2.1 clsA (wl G M) H → va_S (inW G) s.heap H locs → lv_has ls 6 [(0, .ref (G.1 + h)), (1, .int v1), (2, .int v2), (3, .int v3), (4, .int v4)] → W p l e ({ frames := 6, cells := 0, slots := 0, locals := 144 } : Room) s m ([.ref (G.1 + h), .int a1] : List Value).toArray below meth c H locs 0 0 (MQ below (Pq G (Qi Q)) ([.ref (G.1 + h), .int a1] : List Value).toArray s 0 0 (inW G)) (F0 m 147 ls []) := by
        intro v2 v3 v4 M H locs ls  hw hP hS hl
        unfold b_X10_order_147 at hw
        obtain ⟨x_2, ex_2⟩ : ∃ z : Int32, z = v4 + 1 := ⟨_, rfl⟩
        have hw := hw x_2 ex_2
        refine lv_iinc (v := x_2) (lv' := [(4, .int x_2), (0, .ref (G.1 + h)), (1, .int v1), (2, .int v2), (3, .int v3)]) hx hb dX10_order_147 hl (k := 4) rfl (by rw [ex_2]; rfl) (by decide) rfl (fun ls hl => ?_)
        refine lv_goto (tgt := 49) hx hb dX10_order_150 (by decide) ?_
        exact ih49 v2 v3 x_2 M _ _ _ hw hP hS (lv_sub hl [1, 2, 3, 4, 0] rfl)
      have L_67 : ∀ (v4 : Int32), ∀ (n67 : Nat) (v2 : Int32) (v3 : Int32) (v5 : Int32) (M : Mem) (H : Heap) (locs : List Loc) (ls : Array Slot), l_X10_order_67 h Q (l_X10_order_49 h Q v1 n49) v1 v4 n67 v2 v3 v5 M → va_P G.2.1 clsA (wl G M) H → va_S (inW G) s.heap H locs → lv_has ls 6 [(0, .ref (G.1 + h)), (1, .int v1), (4, .int v4), (2, .int v2), (3, .int v3), (5, .int v5)] → W p l e ({ frames := 6, cells := 0, slots := 0, locals := 144 } : Room) s m ([.ref (G.1 + h), .int a1] : List Value).toArray below meth c H locs 0 0 (MQ below (Pq G (Qi Q)) ([.ref (G.1 + h), .int a1] : List Value).toArray s 0 0 (inW G)) (F0 m 67 ls []) := by
        intro v4  n67
        induction n67 with
        | zero => intro v2 v3 v5 M H locs ls  hw hP hS hl; exact False.elim hw
        | succ n67 ih67 =>
          have J_141 : ∀ (v2 : Int32) (v3 : Int32) (v5 : Int32) (M : Mem) (H : Heap) (locs : List Loc) (ls : Array Slot), b_X10_order_141 h Q (l_X10_order_49 h Q v1 n49) (l_X10_order_67 h Q (l_X10_order_49 h Q v1 n49) v1 v4 n67) v1 v4 v2 v3 v5 M → va_P G.2.1 clsA (wl G M) H → va_S (inW G) s.heap H locs → lv_has ls 6 [(0, .ref (G.1 + h)), (1, .int v1), (4, .int v4), (2, .int v2), (3, .int v3), (5, .int v5)] → W p l e ({ frames := 6, cells := 0, slots := 0, locals := 144 } : Room) s m ([.ref (G.1 + h), .int a1] : List Value).toArray below meth c H locs 0 0 (MQ below (Pq G (Qi Q)) ([.ref (G.1 + h), .int a1] : List Value).toArray s 0 0 (inW G)) (F0 m 141 ls []) := by
            intro v2 v3 v5 M H locs ls  hw hP hS hl
            unfold b_X10_order_141 at hw
            obtain ⟨x_3, ex_3⟩ : ∃ z : Int32, z = v5 + 1 := ⟨_, rfl⟩
            have hw := hw x_3 ex_3
            refine lv_iinc (v := x_3) (lv' := [(5, .int x_3), (0, .ref (G.1 + h)), (1, .int v1), (4, .int v4), (2, .int v2), (3, .int v3)]) hx hb dX10_order_141 hl (k := 5) rfl (by rw [ex_3]; rfl) (by decide) rfl (fun ls hl => ?_)
            refine lv_goto (tgt := 67) hx hb dX10_order_144 (by decide) ?_
            exact ih67 v2 v3 x_3 M _ _ _ hw hP hS (lv_sub hl [1, 2, 3, 4, 5, 0] rfl)
          have J_139 : ∀ (v3 : Int32) (v5 : Int32) (s0 : Int32) (s1 : Int32) (M : Mem) (H : Heap) (locs : List Loc) (ls : Array Slot), b_X10_order_139 h Q (l_X10_order_49 h Q v1 n49) (l_X10_order_67 h Q (l_X10_order_49 h Q v1 n49) v1 v4 n67) v1 v4 v3 v5 s0 s1 M → va_P G.2.1 clsA (wl G M) H → va_S (inW G) s.heap H locs → lv_has ls 6 [(0, .ref (G.1 + h)), (1, .int v1), (4, .int v4), (3, .int v3), (5, .int v5)] → W p l e ({ frames := 6, cells := 0, slots := 0, locals := 144 } : Room) s m ([.ref (G.1 + h), .int a1] : List Value).toArray below meth c H locs 0 0 (MQ below (Pq G (Qi Q)) ([.ref (G.1 + h), .int a1] : List Value).toArray s 0 0 (inW G)) (F0 m 139 ls [.int s1, .int s0]) := by
            intro v3 v5 s0 s1 M H locs ls  hw hP hS hl
            unfold b_X10_order_139 at hw
            refine lv_iadd hx hb dX10_order_139 ?_
            refine lv_topi (fun x_4 ex_4 => ?_)
            have hw := hw x_4 ex_4
            refine lv_istore_n (lv' := [(2, .int x_4), (0, .ref (G.1 + h)), (1, .int v1), (4, .int v4), (3, .int v3), (5, .int v5)]) hx hb dX10_order_140 rfl hl (by decide) rfl (fun ls hl => ?_)
            exact J_141 x_4 v3 v5 M _ _ _ hw hP hS (lv_sub hl [1, 2, 3, 0, 4, 5] rfl)
          have J_128 : ∀ (v2 : Int32) (v5 : Int32) (s0 : Int32) (M : Mem) (H : Heap) (locs : List Loc) (ls : Array Slot), b_X10_order_128 h Q (l_X10_order_49 h Q v1 n49) (l_X10_order_67 h Q (l_X10_order_49 h Q v1 n49) v1 v4 n67) v1 v4 v2 v5 s0 M → va_P G.2.1 clsA (wl G M) H → va_S (inW G) s.heap H locs → lv_has ls 6 [(0, .ref (G.1 + h)), (1, .int v1), (4, .int v4), (2, .int v2), (5, .int v5)] → W p l e ({ frames := 6, cells := 0, slots := 0, locals := 144 } : Room) s m ([.ref (G.1 + h), .int a1] : List Value).toArray below meth c H locs 0 0 (MQ below (Pq G (Qi Q)) ([.ref (G.1 + h), .int a1] : List Value).toArray s 0 0 (inW G)) (F0 m 128 ls [.int s0]) := by
            intro v2 v5 s0 M H locs ls  hw hP hS hl
            unfold b_X10_order_128 at hw
            refine lv_istore_n (lv' := [(3, .int s0), (0, .ref (G.1 + h)), (1, .int v1), (4, .int v4), (2, .int v2), (5, .int v5)]) hx hb dX10_order_128 rfl hl (by decide) rfl (fun ls hl => ?_)
            refine lv_iload_n hx hb dX10_order_129 rfl (lv_at hl 4 rfl) ?_
            refine lv_iload_n hx hb dX10_order_130 rfl (lv_at hl 0 rfl) ?_
            refine lv_if_eq (tgt := 138) hx hb dX10_order_131 (by decide) (fun c_5 => ?_) (fun c_5 => ?_)
            · have hw := hw.1 c_5
              refine lv_iconst (v := 0) hx hb dX10_order_138 (by decide) ?_
              exact J_139 s0 v5 v2 0 M _ _ _ hw hP hS (lv_sub hl [1, 2, 3, 0, 5] rfl)
            · have hw := hw.2 c_5
              refine lv_iconst (v := 1) hx hb dX10_order_134 (by decide) ?_
              refine lv_goto (tgt := 139) hx hb dX10_order_135 (by decide) ?_
              exact J_139 s0 v5 v2 1 M _ _ _ hw hP hS (lv_sub hl [1, 2, 3, 0, 5] rfl)
          have J_127 : ∀ (v2 : Int32) (v5 : Int32) (M : Mem) (H : Heap) (locs : List Loc) (ls : Array Slot), b_X10_order_127 h Q (l_X10_order_49 h Q v1 n49) (l_X10_order_67 h Q (l_X10_order_49 h Q v1 n49) v1 v4 n67) v1 v4 v2 v5 M → va_P G.2.1 clsA (wl G M) H → va_S (inW G) s.heap H locs → lv_has ls 6 [(0, .ref (G.1 + h)), (1, .int v1), (4, .int v4), (2, .int v2), (5, .int v5)] → W p l e ({ frames := 6, cells := 0, slots := 0, locals := 144 } : Room) s m ([.ref (G.1 + h), .int a1] : List Value).toArray below meth c H locs 0 0 (MQ below (Pq G (Qi Q)) ([.ref (G.1 + h), .int a1] : List Value).toArray s 0 0 (inW G)) (F0 m 127 ls []) := by
            intro v2 v5 M H locs ls  hw hP hS hl
            unfold b_X10_order_127 at hw
            refine lv_iconst (v := 0) hx hb dX10_order_127 (by decide) ?_
            exact J_128 v2 v5 0 M _ _ _ hw hP hS (lv_sub hl [0, 1, 2, 3, 4] rfl)
          intro v2 v3 v5 M H locs ls  hw hP hS hl
          have hw : B_X10_order_67 h Q (l_X10_order_49 h Q v1 n49) v1 v4 (l_X10_order_67 h Q (l_X10_order_49 h Q v1 n49) v1 v4 n67) v2 v3 v5 M := hw
          unfold B_X10_order_67 at hw
          refine lv_iload hx hb dX10_order_67 (lv_at hl 5 rfl) ?_
          refine lv_aload_n hx hb dX10_order_69 rfl (lv_at hl 0 rfl) ?_
          refine mw_get (ci := 10) (v := .ref (G.1 + (h + 1))) (C := RX10) (T := TX10) (N := 25) hx hb ht inX10 hown hSt hP kh (by decide) (mk10 kh) rfl 0 (by decide) (ht _ wf_RX10_7) rfl rfl dX10_order_70 ?_
          refine lv_iconst (v := 3) hx hb dX10_order_73 (by decide) ?_
          refine mw_ialdc hx hb hSt hP (ks10_0 kh) (ln10_0 kh) 3 (by decide) dX10_order_74 ?_
          refine lv_icmp_ge (tgt := 147) hx hb dX10_order_75 (by decide) (fun c_7 => ?_) (fun c_7 => ?_)
          · have hw := hw.1 c_7
            exact J_147 v2 v3 v4 M _ _ _ hw hP hS (lv_sub hl [0, 1, 3, 4, 2] rfl)
          · have hw := hw.2 c_7
            refine lv_iload_n hx hb dX10_order_78 rfl (lv_at hl 4 rfl) ?_
            refine lv_if_eq (tgt := 147) hx hb dX10_order_79 (by decide) (fun c_8 => ?_) (fun c_8 => ?_)
            · have hw := hw.1 c_8
              exact J_147 v2 v3 v4 M _ _ _ hw hP hS (lv_sub hl [0, 1, 3, 4, 2] rfl)
            · have hw := hw.2 c_8
              refine lv_aload_n hx hb dX10_order_82 rfl (lv_at hl 0 rfl) ?_
              refine mw_get (ci := 10) (v := .ref (G.1 + (h + 8))) (C := RX10) (T := TX10) (N := 25) hx hb ht inX10 hown hSt hP kh (by decide) (mk10 kh) rfl 15 (by decide) (ht _ wf_RX10_31) rfl rfl dX10_order_83 ?_
              refine lv_iload hx hb dX10_order_86 (lv_at hl 5 rfl) ?_
              obtain ⟨c_9, hw⟩ := hw
              refine mw_iald hx hb hSt hP (ks10_15 kh) (by rw [(ln10_15 kh)]; exact c_9) dX10_order_88 ?_
              refine lv_if_lt (tgt := 141) hx hb dX10_order_89 (by decide) (fun c_10 => ?_) (fun c_10 => ?_)
              · have hw := hw.1 c_10
                exact J_141 v2 v3 v5 M _ _ _ hw hP hS (lv_sub hl [0, 1, 2, 3, 4, 5] rfl)
              · have hw := hw.2 c_10
                refine lv_iload_n hx hb dX10_order_92 rfl (lv_at hl 3 rfl) ?_
                refine lv_aload_n hx hb dX10_order_93 rfl (lv_at hl 0 rfl) ?_
                refine mw_get (ci := 10) (v := .ref (G.1 + (h + 10))) (C := RX10) (T := TX10) (N := 25) hx hb ht inX10 hown hSt hP kh (by decide) (mk10 kh) rfl 17 (by decide) (ht _ wf_RX10_37) rfl rfl dX10_order_94 ?_
                refine lv_iload_n hx hb dX10_order_97 rfl (lv_at hl 1 rfl) ?_
                obtain ⟨c_11, hw⟩ := hw
                refine mw_iald hx hb hSt hP (ks10_17 kh) (by rw [(ln10_17 kh)]; exact c_11) dX10_order_98 ?_
                refine lv_icmp_ge (tgt := 127) hx hb dX10_order_99 (by decide) (fun c_12 => ?_) (fun c_12 => ?_)
                · have hw := hw.1 c_12
                  exact J_127 v2 v5 M _ _ _ hw hP hS (lv_sub hl [0, 1, 2, 3, 5] rfl)
                · have hw := hw.2 c_12
                  refine lv_aload_n hx hb dX10_order_102 rfl (lv_at hl 0 rfl) ?_
                  refine mw_get (ci := 10) (v := .ref (G.1 + (h + 11))) (C := RX10) (T := TX10) (N := 25) hx hb ht inX10 hown hSt hP kh (by decide) (mk10 kh) rfl 18 (by decide) (ht _ wf_RX10_40) rfl rfl dX10_order_103 ?_
                  refine lv_bipush (v := 40) hx hb dX10_order_106 (by decide) ?_
                  refine lv_iload_n hx hb dX10_order_108 rfl (lv_at hl 1 rfl) ?_
                  refine lv_imul hx hb dX10_order_109 ?_
                  refine lv_iload_n hx hb dX10_order_110 rfl (lv_at hl 3 rfl) ?_
                  refine lv_iadd hx hb dX10_order_111 ?_
                  obtain ⟨c_13, hw⟩ := hw
                  refine mw_iald hx hb hSt hP (ks10_18 kh) (by rw [(ln10_18 kh)]; exact c_13) dX10_order_112 ?_
                  refine lv_aload_n hx hb dX10_order_113 rfl (lv_at hl 0 rfl) ?_
                  refine mw_get (ci := 10) (v := .ref (G.1 + (h + 8))) (C := RX10) (T := TX10) (N := 25) hx hb ht inX10 hown hSt hP kh (by decide) (mk10 kh) rfl 15 (by decide) (ht _ wf_RX10_31) rfl rfl dX10_order_114 ?_
                  refine lv_iload hx hb dX10_order_117 (lv_at hl 5 rfl) ?_
                  obtain ⟨c_14, hw⟩ := hw
                  refine mw_iald hx hb hSt hP (ks10_15 kh) (by rw [(ln10_15 kh)]; exact c_14) dX10_order_119 ?_
                  refine lv_icmp_ne (tgt := 127) hx hb dX10_order_120 (by decide) (fun c_15 => ?_) (fun c_15 => ?_)
                  · have hw := hw.1 c_15
                    exact J_127 v2 v5 M _ _ _ hw hP hS (lv_sub hl [0, 1, 2, 3, 5] rfl)
                  · have hw := hw.2 c_15
                    refine lv_iconst (v := 1) hx hb dX10_order_123 (by decide) ?_
                    refine lv_goto (tgt := 128) hx hb dX10_order_124 (by decide) ?_
                    exact J_128 v2 v5 1 M _ _ _ hw hP hS (lv_sub hl [0, 1, 2, 3, 5] rfl)
      intro v2 v3 v4 M H locs ls  hw hP hS hl
      have hw : B_X10_order_49 h Q v1 (l_X10_order_49 h Q v1 n49) v2 v3 v4 M := hw
      unfold B_X10_order_49 at hw
      refine lv_iload hx hb dX10_order_49 (lv_at hl 4 rfl) ?_
      refine lv_bipush (v := 60) hx hb dX10_order_51 (by decide) ?_
      refine lv_icmp_ge (tgt := 153) hx hb dX10_order_53 (by decide) (fun c_16 => ?_) (fun c_16 => ?_)
      · have hw := hw.1 c_16
        exact J_153 v2 M _ _ _ hw hP hS (lv_sub hl [0, 2] rfl)
      · have hw := hw.2 c_16
        refine lv_iload_n hx hb dX10_order_56 rfl (lv_at hl 3 rfl) ?_
        refine lv_if_eq (tgt := 153) hx hb dX10_order_57 (by decide) (fun c_17 => ?_) (fun c_17 => ?_)
        · have hw := hw.1 c_17
          exact J_153 v2 M _ _ _ hw hP hS (lv_sub hl [0, 2] rfl)
        · have hw := hw.2 c_17
          refine lv_aload_n hx hb dX10_order_60 rfl (lv_at hl 0 rfl) ?_
          refine mw_V (As := []) (rest := []) (T := TX10) (N := 25) (n := 0) ⟨hx, hb, hml, hown, hts⟩ (so_X10_oneHour l G h M _ hw) wm_RX10_185 wi_yX10_oneHour wv_yX10_oneHour wn_RX10 wc_yX10_oneHour (by decide) ⟨Nat.le_of_ble_eq_true rfl, Nat.le_of_ble_eq_true rfl⟩ ⟨rfl, rfl⟩ kh (by decide) (mk10 kh) rfl hSt hTb hP hS rfl hl.1 rfl (Nat.le_of_ble_eq_true rfl) dX10_order_61 ⟨Nat.le_refl 0, Nat.le_refl 0⟩ (fun rr_ M_18 H locs hq hP hS => ?_)
          obtain ⟨rfl, hw⟩ := hq
          refine lv_iconst (v := 0) hx hb dX10_order_64 (by decide) ?_
          refine lv_istore (lv' := [(5, .int 0), (0, .ref (G.1 + h)), (1, .int v1), (2, .int v2), (3, .int v3), (4, .int v4)]) hx hb dX10_order_65 hl (by decide) rfl (fun ls hl => ?_)
          obtain ⟨n_, hw⟩ := hw
          exact L_67 v4 n_ v2 v3 0 M_18 _ _ _ hw hP hS (lv_sub hl [1, 2, 5, 3, 4, 0] rfl)
  refine lv_iload_n hx hb dX10_order_0 rfl (lv_at hl 1 rfl) ?_
  refine mw_Sx (As := [.int a1]) (rest := []) (n := 1) ⟨hx, hb, hml, hown, hts⟩ (so_X10_isSheet l G a1 M _ hw) wm_RX10_208 wt_yX10_isSheet wn_RX10 wc_yX10_isSheet (by decide) ⟨Nat.le_of_ble_eq_true rfl, Nat.le_of_ble_eq_true rfl⟩ ⟨rfl, rfl⟩ hSt hTb hP hS rfl hl.1 rfl (Nat.le_of_ble_eq_true rfl) dX10_order_1 ⟨Nat.le_refl 0, Nat.le_refl 0⟩ (fun rr_ M_19 H locs hq hP hS => ?_)
  obtain ⟨r_20, rfl, hw⟩ := hq
  refine lv_if_ne (tgt := 14) hx hb dX10_order_4 (by decide) (fun c_21 => ?_) (fun c_21 => ?_)
  · have hw := hw.1 c_21
    refine lv_aload_n hx hb dX10_order_14 rfl (lv_at hl 0 rfl) ?_
    refine mw_get (ci := 10) (v := .ref (G.1 + (h + 9))) (C := RX10) (T := TX10) (N := 25) hx hb ht inX10 hown hSt hP kh (by decide) (mk10 kh) rfl 16 (by decide) (ht _ wf_RX10_34) rfl rfl dX10_order_15 ?_
    refine lv_iload_n hx hb dX10_order_18 rfl (lv_at hl 1 rfl) ?_
    obtain ⟨c_22, hw⟩ := hw
    refine mw_iald hx hb hSt hP (ks10_16 kh) (by rw [(ln10_16 kh)]; exact c_22) dX10_order_19 ?_
    refine lv_if_ne (tgt := 30) hx hb dX10_order_20 (by decide) (fun c_23 => ?_) (fun c_23 => ?_)
    · have hw := hw.1 c_23
      refine lv_iconst (v := 0) hx hb dX10_order_30 (by decide) ?_
      refine lv_istore_n (lv' := [(2, .int 0), (0, .ref (G.1 + h)), (1, .int a1)]) hx hb dX10_order_31 rfl hl (by decide) rfl (fun ls hl => ?_)
      refine lv_iconst (v := 1) hx hb dX10_order_32 (by decide) ?_
      refine lv_istore_n (lv' := [(3, .int 1), (2, .int 0), (0, .ref (G.1 + h)), (1, .int a1)]) hx hb dX10_order_33 rfl hl (by decide) rfl (fun ls hl => ?_)
      refine lv_aload_n hx hb dX10_order_34 rfl (lv_at hl 2 rfl) ?_
      refine lv_aload_n hx hb dX10_order_35 rfl (lv_at hl 2 rfl) ?_
      refine mw_get (ci := 10) (v := .ref (G.1 + (h + 1))) (C := RX10) (T := TX10) (N := 25) hx hb ht inX10 hown hSt hP kh (by decide) (mk10 kh) rfl 0 (by decide) (ht _ wf_RX10_7) rfl rfl dX10_order_36 ?_
      refine lv_aload_n hx hb dX10_order_39 rfl (lv_at hl 2 rfl) ?_
      refine mw_get (ci := 10) (v := .ref (G.1 + (h + 3))) (C := RX10) (T := TX10) (N := 25) hx hb ht inX10 hown hSt hP kh (by decide) (mk10 kh) rfl 2 (by decide) (ht _ wf_RX10_16) rfl rfl dX10_order_40 ?_
      refine mw_V (As := [.ref (G.1 + (h + 1)), .ref (G.1 + (h + 3))]) (rest := []) (T := TX10) (N := 25) (n := 2) ⟨hx, hb, hml, hown, hts⟩ (so_X10_moveAll l G h (h + 1) (h + 3) M_19 _ hw) wm_RX10_188 wi_yX10_moveAll wv_yX10_moveAll wn_RX10 wc_yX10_moveAll (by decide) ⟨Nat.le_of_ble_eq_true rfl, Nat.le_of_ble_eq_true rfl⟩ ⟨rfl, rfl⟩ kh (by decide) (mk10 kh) rfl hSt hTb hP hS rfl hl.1 rfl (Nat.le_of_ble_eq_true rfl) dX10_order_43 ⟨Nat.le_refl 0, Nat.le_refl 0⟩ (fun rr_ M_24 H locs hq hP hS => ?_)
      obtain ⟨rfl, hw⟩ := hq
      refine lv_iconst (v := 0) hx hb dX10_order_46 (by decide) ?_
      refine lv_istore (lv' := [(4, .int 0), (3, .int 1), (2, .int 0), (0, .ref (G.1 + h)), (1, .int a1)]) hx hb dX10_order_47 hl (by decide) rfl (fun ls hl => ?_)
      obtain ⟨n_, hw⟩ := hw
      exact L_49 a1 n_ 0 1 0 M_24 _ _ _ hw hP hS (lv_sub hl [3, 4, 2, 1, 0] rfl)
    · have hw := hw.2 c_23
      refine lv_aload_n hx hb dX10_order_23 rfl (lv_at hl 0 rfl) ?_
      refine lv_ldc (v := (-1000000002)) hx hb hown (ht _ wk_RX10_204) dX10_order_24 ?_
      refine mw_V (As := [.int (-1000000002)]) (rest := []) (T := TX10) (N := 25) (n := 1) ⟨hx, hb, hml, hown, hts⟩ (so_X10_errs l G h (-1000000002) M_19 _ hw) wm_RX10_63 wi_yX10_errs wv_yX10_errs wn_RX10 wc_yX10_errs (by decide) ⟨Nat.le_of_ble_eq_true rfl, Nat.le_of_ble_eq_true rfl⟩ ⟨rfl, rfl⟩ kh (by decide) (mk10 kh) rfl hSt hTb hP hS rfl hl.1 rfl (Nat.le_of_ble_eq_true rfl) dX10_order_26 ⟨Nat.le_refl 0, Nat.le_refl 0⟩ (fun rr_ M_25 H locs hq hP hS => ?_)
      obtain ⟨r_26, rfl, hw⟩ := hq
      exact W.iret hx hb hr (mw_end hP hSt hTb hS ⟨_, rfl, hw⟩) hS.2.2 dX10_order_29
  · have hw := hw.2 c_21
    refine lv_aload_n hx hb dX10_order_7 rfl (lv_at hl 0 rfl) ?_
    refine lv_ldc (v := (-1000000001)) hx hb hown (ht _ wk_RX10_62) dX10_order_8 ?_
    refine mw_V (As := [.int (-1000000001)]) (rest := []) (T := TX10) (N := 25) (n := 1) ⟨hx, hb, hml, hown, hts⟩ (so_X10_errs l G h (-1000000001) M_19 _ hw) wm_RX10_63 wi_yX10_errs wv_yX10_errs wn_RX10 wc_yX10_errs (by decide) ⟨Nat.le_of_ble_eq_true rfl, Nat.le_of_ble_eq_true rfl⟩ ⟨rfl, rfl⟩ kh (by decide) (mk10 kh) rfl hSt hTb hP hS rfl hl.1 rfl (Nat.le_of_ble_eq_true rfl) dX10_order_10 ⟨Nat.le_refl 0, Nat.le_refl 0⟩ (fun rr_ M_27 H locs hq hP hS => ?_)
    obtain ⟨r_28, rfl, hw⟩ := hq
    exact W.iret hx hb hr (mw_end hP hSt hTb hS ⟨_, rfl, hw⟩) hS.2.2 dX10_order_13
def b_X10_strong_105 (h : Nat) (Q : Int32 → Mem → Prop) (v4 : Int32) (v5 : Int32) (v6 : Int32) (v7 : Int32) (M : Mem) : Prop :=
  vp_in v4 242 ∧ ∀ M_2, M_2 = mu M (h + 1) v4.toNatClampNeg v5 → (v7 = 0 → wp_X10_errs h (-1000000002) M_2 (fun r_5 M_4 => Q r_5 M_4)) ∧ (¬ v7 = 0 → Q v6 M_2)
def b_X10_strong_100 (h : Nat) (Q : Int32 → Mem → Prop) (K58 : Int32 → Int32 → Mem → Prop) (v2 : Int32) (v3 : Int32) (v4 : Int32) (v5 : Int32) (v6 : Int32) (s0 : Int32) (M : Mem) : Prop :=
  K58 v6 s0 M
def B_X10_strong_58 (h : Nat) (Q : Int32 → Mem → Prop) (v2 : Int32) (v3 : Int32) (v4 : Int32) (v5 : Int32) (K58 : Int32 → Int32 → Mem → Prop) (v6 : Int32) (v7 : Int32) (M : Mem) : Prop :=
  (99 ≤ v6 → b_X10_strong_105 h Q v4 v5 v6 v7 M) ∧ (¬ 99 ≤ v6 → (¬ v7 = 0 → b_X10_strong_105 h Q v4 v5 v6 v7 M) ∧ (v7 = 0 → ∀ x_8 : Int32, x_8 = v6 + 1 → vp_in v4 242 ∧ ∀ M_10, M_10 = mu M (h + 1) v4.toNatClampNeg x_8 → wp_X10_foundBehind h v3 M_10 (fun r_12 M_11 => (¬ ((isr r_12 v2) &&& 1) = 1 → b_X10_strong_100 h Q K58 v2 v3 v4 v5 x_8 0 M_11) ∧ (((isr r_12 v2) &&& 1) = 1 → b_X10_strong_100 h Q K58 v2 v3 v4 v5 x_8 1 M_11))))
def l_X10_strong_58 (h : Nat) (Q : Int32 → Mem → Prop) (v2 : Int32) (v3 : Int32) (v4 : Int32) (v5 : Int32) : Nat → Int32 → Int32 → Mem → Prop
  | 0 => fun _ _ _ => False
  | n + 1 => B_X10_strong_58 h Q v2 v3 v4 v5 (l_X10_strong_58 h Q v2 v3 v4 v5 n)
def b_X10_strong_26 (h : Nat) (Q : Int32 → Mem → Prop) (M : Mem) : Prop :=
  wp_X10_errs h (-1000000001) M (fun r_15 M_14 => Q r_15 M_14)
def wp_X10_strong (h : Nat) (a1 : Int32) (a2 : Int32) (a3 : Int32) (M : Mem) (Q : Int32 → Mem → Prop) : Prop :=
  kdT h = 10 ∧ (wp_X10_isSeeker h a1 M (fun r_17 M_16 => (r_17 = 0 → b_X10_strong_26 h Q M_16) ∧ (¬ r_17 = 0 → wp_X10_isSheep h a2 M_16 (fun r_20 M_19 => (r_20 = 0 → b_X10_strong_26 h Q M_19) ∧ (¬ r_20 = 0 → wp_X10_in a3 0 20 M_19 (fun r_23 M_22 => (¬ r_23 = 0 → ∀ x_25, x_25 = (18 + (2 * a1)) + 1 → vp_in x_25 242 ∧ (∀ x_27, x_27 = M_22 (h + 1) x_25.toNatClampNeg → ∃ n, l_X10_strong_58 h Q a2 a3 x_25 x_27 n (-1) 0 M_22)) ∧ (r_23 = 0 → b_X10_strong_26 h Q M_22)))))))
set_option maxHeartbeats 4000000 in
set_option maxRecDepth 100000 in
theorem so_X10_strong (l : Launch) (G : Gm) (h : Nat) (a1 : Int32) (a2 : Int32) (a3 : Int32) (M : Mem) (Q : Int32 → Mem → Prop) (hw : wp_X10_strong h a1 a2 a3 M Q) : Ct l G yX10_strong cX10_strong 8 (some .int) ({ frames := 8, cells := 0, slots := 0, locals := 188 } : Room) [.ref (G.1 + h), .int a1, .int a2, .int a3] M (Qi Q) := by
  unfold wp_X10_strong at hw
  obtain ⟨kh, hw⟩ := hw
  refine ct_of (by decide) (Nat.le_of_ble_eq_true rfl) ?_
  intro p e s m below meth c E_ ls H hl hP hS
  obtain ⟨hx, hb, hml, hown, hts, ht, hr, hlocks, hSt, hTb⟩ := E_
  have hl : lv_has ls 8 [(0, .ref (G.1 + h)), (1, .int a1), (2, .int a2), (3, .int a3)] := hl
  have J_105 : ∀ (v4 : Int32) (v5 : Int32) (v6 : Int32) (v7 : Int32) (M : Mem) (H : Heap) (locs : List Loc) (ls : Array Slot), b_X10_strong_105 h Q v4 v5 v6 v7 M → va_P G.2.1 clsA (wl G M) H → va_S (inW G) s.heap H locs → lv_has ls 8 [(0, .ref (G.1 + h)), (4, .int v4), (5, .int v5), (6, .int v6), (7, .int v7)] → W p l e ({ frames := 8, cells := 0, slots := 0, locals := 188 } : Room) s m ([.ref (G.1 + h), .int a1, .int a2, .int a3] : List Value).toArray below meth c H locs 0 0 (MQ below (Pq G (Qi Q)) ([.ref (G.1 + h), .int a1, .int a2, .int a3] : List Value).toArray s 0 0 (inW G)) (F0 m 105 ls []) := by
    intro v4 v5 v6 v7 M H locs ls  hw hP hS hl
    unfold b_X10_strong_105 at hw
    refine lv_aload_n hx hb dX10_strong_105 rfl (lv_at hl 0 rfl) ?_
    refine mw_get (ci := 10) (v := .ref (G.1 + (h + 1))) (C := RX10) (T := TX10) (N := 25) hx hb ht inX10 hown hSt hP kh (by decide) (mk10 kh) rfl 0 (by decide) (ht _ wf_RX10_7) rfl rfl dX10_strong_106 ?_
    refine lv_iload hx hb dX10_strong_109 (lv_at hl 1 rfl) ?_
    refine lv_iload hx hb dX10_strong_111 (lv_at hl 2 rfl) ?_
    obtain ⟨c_1, hw⟩ := hw
    refine mw_iast hx hb hSt hP hS (ks10_0 kh) (by rw [(ln10_0 kh)]; exact c_1) dX10_strong_113 (fun M_2 H locs eM_2 hP hS => ?_)
    have hw := hw M_2 eM_2
    refine lv_iload hx hb dX10_strong_114 (lv_at hl 4 rfl) ?_
    refine lv_if_eq (tgt := 124) hx hb dX10_strong_116 (by decide) (fun c_3 => ?_) (fun c_3 => ?_)
    · have hw := hw.1 c_3
      refine lv_aload_n hx hb dX10_strong_124 rfl (lv_at hl 0 rfl) ?_
      refine lv_ldc (v := (-1000000002)) hx hb hown (ht _ wk_RX10_204) dX10_strong_125 ?_
      refine mw_V (As := [.int (-1000000002)]) (rest := []) (T := TX10) (N := 25) (n := 1) ⟨hx, hb, hml, hown, hts⟩ (so_X10_errs l G h (-1000000002) M_2 _ hw) wm_RX10_63 wi_yX10_errs wv_yX10_errs wn_RX10 wc_yX10_errs (by decide) ⟨Nat.le_of_ble_eq_true rfl, Nat.le_of_ble_eq_true rfl⟩ ⟨rfl, rfl⟩ kh (by decide) (mk10 kh) rfl hSt hTb hP hS rfl hl.1 rfl (Nat.le_of_ble_eq_true rfl) dX10_strong_127 ⟨Nat.le_refl 0, Nat.le_refl 0⟩ (fun rr_ M_4 H locs hq hP hS => ?_)
      obtain ⟨r_5, rfl, hw⟩ := hq
      exact W.iret hx hb hr (mw_end hP hSt hTb hS ⟨_, rfl, hw⟩) hS.2.2 dX10_strong_130
    · have hw := hw.2 c_3
      refine lv_iload hx hb dX10_strong_119 (lv_at hl 3 rfl) ?_
      refine lv_goto (tgt := 130) hx hb dX10_strong_121 (by decide) ?_
      exact W.iret hx hb hr (mw_end hP hSt hTb hS ⟨_, rfl, hw⟩) hS.2.2 dX10_strong_130
  have L_58 : ∀ (v2 : Int32) (v3 : Int32) (v4 : Int32) (v5 : Int32), ∀ (n58 : Nat) (v6 : Int32) (v7 : Int32) (M : Mem) (H : Heap) (locs : List Loc) (ls : Array Slot), l_X10_strong_58 h Q v2 v3 v4 v5 n58 v6 v7 M → va_P G.2.1 clsA (wl G M) H → va_S (inW G) s.heap H locs → lv_has ls 8 [(0, .ref (G.1 + h)), (2, .int v2), (3, .int v3), (4, .int v4), (5, .int v5), (6, .int v6), (7, .int v7)] → W p l e ({ frames := 8, cells := 0, slots := 0, locals := 188 } : Room) s m ([.ref (G.1 + h), .int a1, .int a2, .int a3] : List Value).toArray below meth c H locs 0 0 (MQ below (Pq G (Qi Q)) ([.ref (G.1 + h), .int a1, .int a2, .int a3] : List Value).toArray s 0 0 (inW G)) (F0 m 58 ls []) := by
    intro v2 v3 v4 v5  n58
    induction n58 with
    | zero => intro v6 v7 M H locs ls  hw hP hS hl; exact False.elim hw
    | succ n58 ih58 =>
      have J_100 : ∀ (v6 : Int32) (s0 : Int32) (M : Mem) (H : Heap) (locs : List Loc) (ls : Array Slot), b_X10_strong_100 h Q (l_X10_strong_58 h Q v2 v3 v4 v5 n58) v2 v3 v4 v5 v6 s0 M → va_P G.2.1 clsA (wl G M) H → va_S (inW G) s.heap H locs → lv_has ls 8 [(0, .ref (G.1 + h)), (2, .int v2), (3, .int v3), (4, .int v4), (5, .int v5), (6, .int v6)] → W p l e ({ frames := 8, cells := 0, slots := 0, locals := 188 } : Room) s m ([.ref (G.1 + h), .int a1, .int a2, .int a3] : List Value).toArray below meth c H locs 0 0 (MQ below (Pq G (Qi Q)) ([.ref (G.1 + h), .int a1, .int a2, .int a3] : List Value).toArray s 0 0 (inW G)) (F0 m 100 ls [.int s0]) := by
        intro v6 s0 M H locs ls  hw hP hS hl
        unfold b_X10_strong_100 at hw
        refine lv_istore (lv' := [(7, .int s0), (0, .ref (G.1 + h)), (2, .int v2), (3, .int v3), (4, .int v4), (5, .int v5), (6, .int v6)]) hx hb dX10_strong_100 hl (by decide) rfl (fun ls hl => ?_)
        refine lv_goto (tgt := 58) hx hb dX10_strong_102 (by decide) ?_
        exact ih58 v6 s0 M _ _ _ hw hP hS (lv_sub hl [1, 2, 3, 4, 5, 6, 0] rfl)
      intro v6 v7 M H locs ls  hw hP hS hl
      have hw : B_X10_strong_58 h Q v2 v3 v4 v5 (l_X10_strong_58 h Q v2 v3 v4 v5 n58) v6 v7 M := hw
      unfold B_X10_strong_58 at hw
      refine lv_iload hx hb dX10_strong_58 (lv_at hl 5 rfl) ?_
      refine lv_bipush (v := 99) hx hb dX10_strong_60 (by decide) ?_
      refine lv_icmp_ge (tgt := 105) hx hb dX10_strong_62 (by decide) (fun c_6 => ?_) (fun c_6 => ?_)
      · have hw := hw.1 c_6
        exact J_105 v4 v5 v6 v7 M _ _ _ hw hP hS (lv_sub hl [0, 3, 4, 5, 6] rfl)
      · have hw := hw.2 c_6
        refine lv_iload hx hb dX10_strong_65 (lv_at hl 6 rfl) ?_
        refine lv_if_ne (tgt := 105) hx hb dX10_strong_67 (by decide) (fun c_7 => ?_) (fun c_7 => ?_)
        · have hw := hw.1 c_7
          exact J_105 v4 v5 v6 v7 M _ _ _ hw hP hS (lv_sub hl [0, 3, 4, 5, 6] rfl)
        · have hw := hw.2 c_7
          obtain ⟨x_8, ex_8⟩ : ∃ z : Int32, z = v6 + 1 := ⟨_, rfl⟩
          have hw := hw x_8 ex_8
          refine lv_iinc (v := x_8) (lv' := [(6, .int x_8), (0, .ref (G.1 + h)), (2, .int v2), (3, .int v3), (4, .int v4), (5, .int v5), (7, .int v7)]) hx hb dX10_strong_70 hl (k := 5) rfl (by rw [ex_8]; rfl) (by decide) rfl (fun ls hl => ?_)
          refine lv_aload_n hx hb dX10_strong_73 rfl (lv_at hl 1 rfl) ?_
          refine mw_get (ci := 10) (v := .ref (G.1 + (h + 1))) (C := RX10) (T := TX10) (N := 25) hx hb ht inX10 hown hSt hP kh (by decide) (mk10 kh) rfl 0 (by decide) (ht _ wf_RX10_7) rfl rfl dX10_strong_74 ?_
          refine lv_iload hx hb dX10_strong_77 (lv_at hl 4 rfl) ?_
          refine lv_iload hx hb dX10_strong_79 (lv_at hl 0 rfl) ?_
          obtain ⟨c_9, hw⟩ := hw
          refine mw_iast hx hb hSt hP hS (ks10_0 kh) (by rw [(ln10_0 kh)]; exact c_9) dX10_strong_81 (fun M_10 H locs eM_10 hP hS => ?_)
          have hw := hw M_10 eM_10
          refine lv_aload_n hx hb dX10_strong_82 rfl (lv_at hl 1 rfl) ?_
          refine lv_iload_n hx hb dX10_strong_83 rfl (lv_at hl 3 rfl) ?_
          refine mw_V (As := [.int v3]) (rest := []) (T := TX10) (N := 25) (n := 1) ⟨hx, hb, hml, hown, hts⟩ (so_X10_foundBehind l G h v3 M_10 _ hw) wm_RX10_205 wi_yX10_foundBehind wv_yX10_foundBehind wn_RX10 wc_yX10_foundBehind (by decide) ⟨Nat.le_of_ble_eq_true rfl, Nat.le_of_ble_eq_true rfl⟩ ⟨rfl, rfl⟩ kh (by decide) (mk10 kh) rfl hSt hTb hP hS rfl hl.1 rfl (Nat.le_of_ble_eq_true rfl) dX10_strong_84 ⟨Nat.le_refl 0, Nat.le_refl 0⟩ (fun rr_ M_11 H locs hq hP hS => ?_)
          obtain ⟨r_12, rfl, hw⟩ := hq
          refine lv_iload_n hx hb dX10_strong_87 rfl (lv_at hl 2 rfl) ?_
          refine lv_ishr hx hb dX10_strong_88 ?_
          refine lv_iconst (v := 1) hx hb dX10_strong_89 (by decide) ?_
          refine lv_iand hx hb dX10_strong_90 ?_
          refine lv_iconst (v := 1) hx hb dX10_strong_91 (by decide) ?_
          refine lv_icmp_ne (tgt := 99) hx hb dX10_strong_92 (by decide) (fun c_13 => ?_) (fun c_13 => ?_)
          · have hw := hw.1 c_13
            refine lv_iconst (v := 0) hx hb dX10_strong_99 (by decide) ?_
            exact J_100 x_8 0 M_11 _ _ _ hw hP hS (lv_sub hl [1, 2, 3, 4, 5, 0] rfl)
          · have hw := hw.2 c_13
            refine lv_iconst (v := 1) hx hb dX10_strong_95 (by decide) ?_
            refine lv_goto (tgt := 100) hx hb dX10_strong_96 (by decide) ?_
            exact J_100 x_8 1 M_11 _ _ _ hw hP hS (lv_sub hl [1, 2, 3, 4, 5, 0] rfl)
  have J_26 : ∀  (M : Mem) (H : Heap) (locs : List Loc) (ls : Array Slot), b_X10_strong_26 h Q M → va_P G.2.1 clsA (wl G M) H → va_S (inW G) s.heap H locs → lv_has ls 8 [(0, .ref (G.1 + h))] → W p l e ({ frames := 8, cells := 0, slots := 0, locals := 188 } : Room) s m ([.ref (G.1 + h), .int a1, .int a2, .int a3] : List Value).toArray below meth c H locs 0 0 (MQ below (Pq G (Qi Q)) ([.ref (G.1 + h), .int a1, .int a2, .int a3] : List Value).toArray s 0 0 (inW G)) (F0 m 26 ls []) := by
    intro  M H locs ls  hw hP hS hl
    unfold b_X10_strong_26 at hw
    refine lv_aload_n hx hb dX10_strong_26 rfl (lv_at hl 0 rfl) ?_
    refine lv_ldc (v := (-1000000001)) hx hb hown (ht _ wk_RX10_62) dX10_strong_27 ?_
    refine mw_V (As := [.int (-1000000001)]) (rest := []) (T := TX10) (N := 25) (n := 1) ⟨hx, hb, hml, hown, hts⟩ (so_X10_errs l G h (-1000000001) M _ hw) wm_RX10_63 wi_yX10_errs wv_yX10_errs wn_RX10 wc_yX10_errs (by decide) ⟨Nat.le_of_ble_eq_true rfl, Nat.le_of_ble_eq_true rfl⟩ ⟨rfl, rfl⟩ kh (by decide) (mk10 kh) rfl hSt hTb hP hS rfl hl.1 rfl (Nat.le_of_ble_eq_true rfl) dX10_strong_29 ⟨Nat.le_refl 0, Nat.le_refl 0⟩ (fun rr_ M_14 H locs hq hP hS => ?_)
    obtain ⟨r_15, rfl, hw⟩ := hq
    exact W.iret hx hb hr (mw_end hP hSt hTb hS ⟨_, rfl, hw⟩) hS.2.2 dX10_strong_32
  refine lv_aload_n hx hb dX10_strong_0 rfl (lv_at hl 0 rfl) ?_
  refine lv_iload_n hx hb dX10_strong_1 rfl (lv_at hl 1 rfl) ?_
  refine mw_V (As := [.int a1]) (rest := []) (T := TX10) (N := 25) (n := 1) ⟨hx, hb, hml, hown, hts⟩ (so_X10_isSeeker l G h a1 M _ hw) wm_RX10_78 wi_yX10_isSeeker wv_yX10_isSeeker wn_RX10 wc_yX10_isSeeker (by decide) ⟨Nat.le_of_ble_eq_true rfl, Nat.le_of_ble_eq_true rfl⟩ ⟨rfl, rfl⟩ kh (by decide) (mk10 kh) rfl hSt hTb hP hS rfl hl.1 rfl (Nat.le_of_ble_eq_true rfl) dX10_strong_2 ⟨Nat.le_refl 0, Nat.le_refl 0⟩ (fun rr_ M_16 H locs hq hP hS => ?_)
  obtain ⟨r_17, rfl, hw⟩ := hq
  refine lv_if_eq (tgt := 26) hx hb dX10_strong_5 (by decide) (fun c_18 => ?_) (fun c_18 => ?_)
  · have hw := hw.1 c_18
    exact J_26 M_16 _ _ _ hw hP hS (lv_sub hl [0] rfl)
  · have hw := hw.2 c_18
    refine lv_aload_n hx hb dX10_strong_8 rfl (lv_at hl 0 rfl) ?_
    refine lv_iload_n hx hb dX10_strong_9 rfl (lv_at hl 2 rfl) ?_
    refine mw_V (As := [.int a2]) (rest := []) (T := TX10) (N := 25) (n := 1) ⟨hx, hb, hml, hown, hts⟩ (so_X10_isSheep l G h a2 M_16 _ hw) wm_RX10_91 wi_yX10_isSheep wv_yX10_isSheep wn_RX10 wc_yX10_isSheep (by decide) ⟨Nat.le_of_ble_eq_true rfl, Nat.le_of_ble_eq_true rfl⟩ ⟨rfl, rfl⟩ kh (by decide) (mk10 kh) rfl hSt hTb hP hS rfl hl.1 rfl (Nat.le_of_ble_eq_true rfl) dX10_strong_10 ⟨Nat.le_refl 0, Nat.le_refl 0⟩ (fun rr_ M_19 H locs hq hP hS => ?_)
    obtain ⟨r_20, rfl, hw⟩ := hq
    refine lv_if_eq (tgt := 26) hx hb dX10_strong_13 (by decide) (fun c_21 => ?_) (fun c_21 => ?_)
    · have hw := hw.1 c_21
      exact J_26 M_19 _ _ _ hw hP hS (lv_sub hl [0] rfl)
    · have hw := hw.2 c_21
      refine lv_iload_n hx hb dX10_strong_16 rfl (lv_at hl 3 rfl) ?_
      refine lv_iconst (v := 0) hx hb dX10_strong_17 (by decide) ?_
      refine lv_bipush (v := 20) hx hb dX10_strong_18 (by decide) ?_
      refine mw_Sx (As := [.int a3, .int 0, .int 20]) (rest := []) (n := 3) ⟨hx, hb, hml, hown, hts⟩ (so_X10_in l G a3 0 20 M_19 _ hw) wm_RX10_50 wt_yX10_in wn_RX10 wc_yX10_in (by decide) ⟨Nat.le_of_ble_eq_true rfl, Nat.le_of_ble_eq_true rfl⟩ ⟨rfl, rfl⟩ hSt hTb hP hS rfl hl.1 rfl (Nat.le_of_ble_eq_true rfl) dX10_strong_20 ⟨Nat.le_refl 0, Nat.le_refl 0⟩ (fun rr_ M_22 H locs hq hP hS => ?_)
      obtain ⟨r_23, rfl, hw⟩ := hq
      refine lv_if_ne (tgt := 33) hx hb dX10_strong_23 (by decide) (fun c_24 => ?_) (fun c_24 => ?_)
      · have hw := hw.1 c_24
        refine lv_bipush (v := 18) hx hb dX10_strong_33 (by decide) ?_
        refine lv_iconst (v := 2) hx hb dX10_strong_35 (by decide) ?_
        refine lv_iload_n hx hb dX10_strong_36 rfl (lv_at hl 1 rfl) ?_
        refine lv_imul hx hb dX10_strong_37 ?_
        refine lv_iadd hx hb dX10_strong_38 ?_
        refine lv_iconst (v := 1) hx hb dX10_strong_39 (by decide) ?_
        refine lv_iadd hx hb dX10_strong_40 ?_
        refine lv_topi (fun x_25 ex_25 => ?_)
        have hw := hw x_25 ex_25
        refine lv_istore (lv' := [(4, .int x_25), (0, .ref (G.1 + h)), (1, .int a1), (2, .int a2), (3, .int a3)]) hx hb dX10_strong_41 hl (by decide) rfl (fun ls hl => ?_)
        refine lv_aload_n hx hb dX10_strong_43 rfl (lv_at hl 1 rfl) ?_
        refine mw_get (ci := 10) (v := .ref (G.1 + (h + 1))) (C := RX10) (T := TX10) (N := 25) hx hb ht inX10 hown hSt hP kh (by decide) (mk10 kh) rfl 0 (by decide) (ht _ wf_RX10_7) rfl rfl dX10_strong_44 ?_
        refine lv_iload hx hb dX10_strong_47 (lv_at hl 0 rfl) ?_
        obtain ⟨c_26, hw⟩ := hw
        refine mw_iald hx hb hSt hP (ks10_0 kh) (by rw [(ln10_0 kh)]; exact c_26) dX10_strong_49 ?_
        refine lv_topi (fun x_27 ex_27 => ?_)
        have hw := hw x_27 ex_27
        refine lv_istore (lv' := [(5, .int x_27), (4, .int x_25), (0, .ref (G.1 + h)), (1, .int a1), (2, .int a2), (3, .int a3)]) hx hb dX10_strong_50 hl (by decide) rfl (fun ls hl => ?_)
        refine lv_iconst (v := (-1)) hx hb dX10_strong_52 (by decide) ?_
        refine lv_istore (lv' := [(6, .int (-1)), (5, .int x_27), (4, .int x_25), (0, .ref (G.1 + h)), (1, .int a1), (2, .int a2), (3, .int a3)]) hx hb dX10_strong_53 hl (by decide) rfl (fun ls hl => ?_)
        refine lv_iconst (v := 0) hx hb dX10_strong_55 (by decide) ?_
        refine lv_istore (lv' := [(7, .int 0), (6, .int (-1)), (5, .int x_27), (4, .int x_25), (0, .ref (G.1 + h)), (1, .int a1), (2, .int a2), (3, .int a3)]) hx hb dX10_strong_56 hl (by decide) rfl (fun ls hl => ?_)
        obtain ⟨n_, hw⟩ := hw
        exact L_58 a2 a3 x_25 x_27 n_ (-1) 0 M_22 _ _ _ hw hP hS (lv_sub hl [4, 6, 7, 3, 2, 1, 0] rfl)
      · have hw := hw.2 c_24
        exact J_26 M_22 _ _ _ hw hP hS (lv_sub hl [0] rfl)
def B_X10_divisor_4 (Q : Int32 → Mem → Prop) (K4 : Int32 → Int32 → Mem → Prop) (v2 : Int32) (v3 : Int32) (M : Mem) : Prop :=
  (v3 = 0 → Q v2 M) ∧ (¬ v3 = 0 → ¬ v3 = 0 ∧ (∀ x_3, x_3 = irm v2 v3 → K4 v3 x_3 M))
def l_X10_divisor_4 (Q : Int32 → Mem → Prop) : Nat → Int32 → Int32 → Mem → Prop
  | 0 => fun _ _ _ => False
  | n + 1 => B_X10_divisor_4 Q (l_X10_divisor_4 Q n)
def wp_X10_divisor (a0 : Int32) (a1 : Int32) (M : Mem) (Q : Int32 → Mem → Prop) : Prop :=
  ∃ n, l_X10_divisor_4 Q n a0 a1 M
set_option maxHeartbeats 4000000 in
set_option maxRecDepth 100000 in
theorem so_X10_divisor (l : Launch) (G : Gm) (a0 : Int32) (a1 : Int32) (M : Mem) (Q : Int32 → Mem → Prop) (hw : wp_X10_divisor a0 a1 M Q) : Ct l G yX10_divisor cX10_divisor 5 (some .int) ({ frames := 0, cells := 0, slots := 0, locals := 0 } : Room) [.int a0, .int a1] M (Qi Q) := by
  unfold wp_X10_divisor at hw
  refine ct_of (by decide) (Nat.le_of_ble_eq_true rfl) ?_
  intro p e s m below meth c E_ ls H hl hP hS
  obtain ⟨hx, hb, hml, hown, hts, ht, hr, hlocks, hSt, hTb⟩ := E_
  have hl : lv_has ls 5 [(0, .int a0), (1, .int a1)] := hl
  have L_4 : ∀ (n4 : Nat) (v2 : Int32) (v3 : Int32) (M : Mem) (H : Heap) (locs : List Loc) (ls : Array Slot), l_X10_divisor_4 Q n4 v2 v3 M → va_P G.2.1 clsA (wl G M) H → va_S (inW G) s.heap H locs → lv_has ls 5 [(2, .int v2), (3, .int v3)] → W p l e ({ frames := 0, cells := 0, slots := 0, locals := 0 } : Room) s m ([.int a0, .int a1] : List Value).toArray below meth c H locs 0 0 (MQ below (Pq G (Qi Q)) ([.int a0, .int a1] : List Value).toArray s 0 0 (inW G)) (F0 m 4 ls []) := by
    intro   n4
    induction n4 with
    | zero => intro v2 v3 M H locs ls  hw hP hS hl; exact False.elim hw
    | succ n4 ih4 =>
      intro v2 v3 M H locs ls  hw hP hS hl
      have hw : B_X10_divisor_4 Q (l_X10_divisor_4 Q n4) v2 v3 M := hw
      unfold B_X10_divisor_4 at hw
      refine lv_iload_n hx hb dX10_divisor_4 rfl (lv_at hl 1 rfl) ?_
      refine lv_if_eq (tgt := 21) hx hb dX10_divisor_5 (by decide) (fun c_1 => ?_) (fun c_1 => ?_)
      · have hw := hw.1 c_1
        refine lv_iload_n hx hb dX10_divisor_21 rfl (lv_at hl 0 rfl) ?_
        exact W.iret hx hb hr (mw_end hP hSt hTb hS ⟨_, rfl, hw⟩) hS.2.2 dX10_divisor_22
      · have hw := hw.2 c_1
        refine lv_iload_n hx hb dX10_divisor_8 rfl (lv_at hl 0 rfl) ?_
        refine lv_iload_n hx hb dX10_divisor_9 rfl (lv_at hl 1 rfl) ?_
        obtain ⟨c_2, hw⟩ := hw
        refine lv_irem hx hb dX10_divisor_10 c_2 ?_
        refine lv_topi (fun x_3 ex_3 => ?_)
        have hw := hw x_3 ex_3
        refine lv_istore (lv' := [(4, .int x_3), (2, .int v2), (3, .int v3)]) hx hb dX10_divisor_11 hl (by decide) rfl (fun ls hl => ?_)
        refine lv_iload_n hx hb dX10_divisor_13 rfl (lv_at hl 2 rfl) ?_
        refine lv_istore_n (lv' := [(2, .int v3), (4, .int x_3), (3, .int v3)]) hx hb dX10_divisor_14 rfl hl (by decide) rfl (fun ls hl => ?_)
        refine lv_iload hx hb dX10_divisor_15 (lv_at hl 1 rfl) ?_
        refine lv_istore_n (lv' := [(3, .int x_3), (2, .int v3), (4, .int x_3)]) hx hb dX10_divisor_17 rfl hl (by decide) rfl (fun ls hl => ?_)
        refine lv_goto (tgt := 4) hx hb dX10_divisor_18 (by decide) ?_
        exact ih4 v3 x_3 M _ _ _ hw hP hS (lv_sub hl [1, 0] rfl)
  refine lv_iload_n hx hb dX10_divisor_0 rfl (lv_at hl 0 rfl) ?_
  refine lv_istore_n (lv' := [(2, .int a0), (0, .int a0), (1, .int a1)]) hx hb dX10_divisor_1 rfl hl (by decide) rfl (fun ls hl => ?_)
  refine lv_iload_n hx hb dX10_divisor_2 rfl (lv_at hl 2 rfl) ?_
  refine lv_istore_n (lv' := [(3, .int a1), (2, .int a0), (0, .int a0), (1, .int a1)]) hx hb dX10_divisor_3 rfl hl (by decide) rfl (fun ls hl => ?_)
  obtain ⟨n_, hw⟩ := hw
  exact L_4 n_ a0 a1 M _ _ _ hw hP hS (lv_sub hl [1, 0] rfl)
def B_X10_odds_48 (h : Nat) (Q : Int32 → Mem → Prop) (v1 : Int32) (v2 : Int32) (v3 : Int32) (v4 : Int32) (K48 : Int32 → Int32 → Mem → Prop) (v5 : Int32) (v6 : Int32) (M : Mem) : Prop :=
  (10 ≤ v6 → wp_X10_gets h v1 2 v4 M (fun M_2 => wp_X10_divisor v5 10 M_2 (fun r_4 M_3 => (¬ v3 = 0 → ¬ r_4 = 0 ∧ (Q (10 / r_4) M_3)) ∧ (v3 = 0 → ¬ r_4 = 0 ∧ (Q (v5 / r_4) M_3))))) ∧ (¬ 10 ≤ v6 → wp_X10_gets h v1 2 v6 M (fun M_8 => wp_X10_foundBehind h v2 M_8 (fun r_10 M_9 => ∀ x_11, x_11 = v5 + ((isr r_10 v1) &&& 1) → ∀ x_12 : Int32, x_12 = v6 + 1 → K48 x_11 x_12 M_9)))
def l_X10_odds_48 (h : Nat) (Q : Int32 → Mem → Prop) (v1 : Int32) (v2 : Int32) (v3 : Int32) (v4 : Int32) : Nat → Int32 → Int32 → Mem → Prop
  | 0 => fun _ _ _ => False
  | n + 1 => B_X10_odds_48 h Q v1 v2 v3 v4 (l_X10_odds_48 h Q v1 v2 v3 v4 n)
def b_X10_odds_27 (h : Nat) (Q : Int32 → Mem → Prop) (M : Mem) : Prop :=
  wp_X10_errs h (-1000000001) M (fun r_14 M_13 => Q r_14 M_13)
def wp_X10_odds (h : Nat) (a1 : Int32) (a2 : Int32) (a3 : Int32) (M : Mem) (Q : Int32 → Mem → Prop) : Prop :=
  kdT h = 10 ∧ (wp_X10_isSheep h a1 M (fun r_16 M_15 => (r_16 = 0 → b_X10_odds_27 h Q M_15) ∧ (¬ r_16 = 0 → wp_X10_in a2 0 60 M_15 (fun r_19 M_18 => (r_19 = 0 → b_X10_odds_27 h Q M_18) ∧ (¬ r_19 = 0 → wp_X10_in a3 0 1 M_18 (fun r_22 M_21 => (¬ r_22 = 0 → wp_X10_its h a1 2 M_21 (fun r_25 M_24 => ∃ n, l_X10_odds_48 h Q a1 a2 a3 r_25 n 0 0 M_24)) ∧ (r_22 = 0 → b_X10_odds_27 h Q M_21)))))))
set_option maxHeartbeats 4000000 in
set_option maxRecDepth 100000 in
theorem so_X10_odds (l : Launch) (G : Gm) (h : Nat) (a1 : Int32) (a2 : Int32) (a3 : Int32) (M : Mem) (Q : Int32 → Mem → Prop) (hw : wp_X10_odds h a1 a2 a3 M Q) : Ct l G yX10_odds cX10_odds 7 (some .int) ({ frames := 8, cells := 0, slots := 0, locals := 188 } : Room) [.ref (G.1 + h), .int a1, .int a2, .int a3] M (Qi Q) := by
  unfold wp_X10_odds at hw
  obtain ⟨kh, hw⟩ := hw
  refine ct_of (by decide) (Nat.le_of_ble_eq_true rfl) ?_
  intro p e s m below meth c E_ ls H hl hP hS
  obtain ⟨hx, hb, hml, hown, hts, ht, hr, hlocks, hSt, hTb⟩ := E_
  have hl : lv_has ls 7 [(0, .ref (G.1 + h)), (1, .int a1), (2, .int a2), (3, .int a3)] := hl
  have L_48 : ∀ (v1 : Int32) (v2 : Int32) (v3 : Int32) (v4 : Int32), ∀ (n48 : Nat) (v5 : Int32) (v6 : Int32) (M : Mem) (H : Heap) (locs : List Loc) (ls : Array Slot), l_X10_odds_48 h Q v1 v2 v3 v4 n48 v5 v6 M → va_P G.2.1 clsA (wl G M) H → va_S (inW G) s.heap H locs → lv_has ls 7 [(0, .ref (G.1 + h)), (1, .int v1), (2, .int v2), (3, .int v3), (4, .int v4), (5, .int v5), (6, .int v6)] → W p l e ({ frames := 8, cells := 0, slots := 0, locals := 188 } : Room) s m ([.ref (G.1 + h), .int a1, .int a2, .int a3] : List Value).toArray below meth c H locs 0 0 (MQ below (Pq G (Qi Q)) ([.ref (G.1 + h), .int a1, .int a2, .int a3] : List Value).toArray s 0 0 (inW G)) (F0 m 48 ls []) := by
    intro v1 v2 v3 v4  n48
    induction n48 with
    | zero => intro v5 v6 M H locs ls  hw hP hS hl; exact False.elim hw
    | succ n48 ih48 =>
      intro v5 v6 M H locs ls  hw hP hS hl
      have hw : B_X10_odds_48 h Q v1 v2 v3 v4 (l_X10_odds_48 h Q v1 v2 v3 v4 n48) v5 v6 M := hw
      unfold B_X10_odds_48 at hw
      refine lv_iload hx hb dX10_odds_48 (lv_at hl 6 rfl) ?_
      refine lv_bipush (v := 10) hx hb dX10_odds_50 (by decide) ?_
      refine lv_icmp_ge (tgt := 83) hx hb dX10_odds_52 (by decide) (fun c_1 => ?_) (fun c_1 => ?_)
      · have hw := hw.1 c_1
        refine lv_aload_n hx hb dX10_odds_83 rfl (lv_at hl 0 rfl) ?_
        refine lv_iload_n hx hb dX10_odds_84 rfl (lv_at hl 1 rfl) ?_
        refine lv_iconst (v := 2) hx hb dX10_odds_85 (by decide) ?_
        refine lv_iload hx hb dX10_odds_86 (lv_at hl 4 rfl) ?_
        refine mw_V (As := [.int v1, .int 2, .int v4]) (rest := []) (T := TX10) (N := 25) (n := 3) ⟨hx, hb, hml, hown, hts⟩ (so_X10_gets l G h v1 2 v4 M _ hw) wm_RX10_87 wi_yX10_gets wv_yX10_gets wn_RX10 wc_yX10_gets (by decide) ⟨Nat.le_of_ble_eq_true rfl, Nat.le_of_ble_eq_true rfl⟩ ⟨rfl, rfl⟩ kh (by decide) (mk10 kh) rfl hSt hTb hP hS rfl hl.1 rfl (Nat.le_of_ble_eq_true rfl) dX10_odds_88 ⟨Nat.le_refl 0, Nat.le_refl 0⟩ (fun rr_ M_2 H locs hq hP hS => ?_)
        obtain ⟨rfl, hw⟩ := hq
        refine lv_iload hx hb dX10_odds_91 (lv_at hl 5 rfl) ?_
        refine lv_bipush (v := 10) hx hb dX10_odds_93 (by decide) ?_
        refine mw_Sx (As := [.int v5, .int 10]) (rest := []) (n := 2) ⟨hx, hb, hml, hown, hts⟩ (so_X10_divisor l G v5 10 M_2 _ hw) wm_RX10_214 wt_yX10_divisor wn_RX10 wc_yX10_divisor (by decide) ⟨Nat.le_of_ble_eq_true rfl, Nat.le_of_ble_eq_true rfl⟩ ⟨rfl, rfl⟩ hSt hTb hP hS rfl hl.1 rfl (Nat.le_of_ble_eq_true rfl) dX10_odds_95 ⟨Nat.le_refl 0, Nat.le_refl 0⟩ (fun rr_ M_3 H locs hq hP hS => ?_)
        obtain ⟨r_4, rfl, hw⟩ := hq
        refine lv_istore (lv' := [(6, .int r_4), (0, .ref (G.1 + h)), (1, .int v1), (2, .int v2), (3, .int v3), (4, .int v4), (5, .int v5)]) hx hb dX10_odds_98 hl (by decide) rfl (fun ls hl => ?_)
        refine lv_iload_n hx hb dX10_odds_100 rfl (lv_at hl 4 rfl) ?_
        refine lv_if_ne (tgt := 112) hx hb dX10_odds_101 (by decide) (fun c_5 => ?_) (fun c_5 => ?_)
        · have hw := hw.1 c_5
          refine lv_bipush (v := 10) hx hb dX10_odds_112 (by decide) ?_
          refine lv_iload hx hb dX10_odds_114 (lv_at hl 0 rfl) ?_
          obtain ⟨c_6, hw⟩ := hw
          refine lv_idiv hx hb dX10_odds_116 c_6 ?_
          exact W.iret hx hb hr (mw_end hP hSt hTb hS ⟨_, rfl, hw⟩) hS.2.2 dX10_odds_117
        · have hw := hw.2 c_5
          refine lv_iload hx hb dX10_odds_104 (lv_at hl 6 rfl) ?_
          refine lv_iload hx hb dX10_odds_106 (lv_at hl 0 rfl) ?_
          obtain ⟨c_7, hw⟩ := hw
          refine lv_idiv hx hb dX10_odds_108 c_7 ?_
          refine lv_goto (tgt := 117) hx hb dX10_odds_109 (by decide) ?_
          exact W.iret hx hb hr (mw_end hP hSt hTb hS ⟨_, rfl, hw⟩) hS.2.2 dX10_odds_117
      · have hw := hw.2 c_1
        refine lv_aload_n hx hb dX10_odds_55 rfl (lv_at hl 0 rfl) ?_
        refine lv_iload_n hx hb dX10_odds_56 rfl (lv_at hl 1 rfl) ?_
        refine lv_iconst (v := 2) hx hb dX10_odds_57 (by decide) ?_
        refine lv_iload hx hb dX10_odds_58 (lv_at hl 6 rfl) ?_
        refine mw_V (As := [.int v1, .int 2, .int v6]) (rest := []) (T := TX10) (N := 25) (n := 3) ⟨hx, hb, hml, hown, hts⟩ (so_X10_gets l G h v1 2 v6 M _ hw) wm_RX10_87 wi_yX10_gets wv_yX10_gets wn_RX10 wc_yX10_gets (by decide) ⟨Nat.le_of_ble_eq_true rfl, Nat.le_of_ble_eq_true rfl⟩ ⟨rfl, rfl⟩ kh (by decide) (mk10 kh) rfl hSt hTb hP hS rfl hl.1 rfl (Nat.le_of_ble_eq_true rfl) dX10_odds_60 ⟨Nat.le_refl 0, Nat.le_refl 0⟩ (fun rr_ M_8 H locs hq hP hS => ?_)
        obtain ⟨rfl, hw⟩ := hq
        refine lv_iload hx hb dX10_odds_63 (lv_at hl 5 rfl) ?_
        refine lv_aload_n hx hb dX10_odds_65 rfl (lv_at hl 0 rfl) ?_
        refine lv_iload_n hx hb dX10_odds_66 rfl (lv_at hl 2 rfl) ?_
        refine mw_V (As := [.int v2]) (rest := [.int v5]) (T := TX10) (N := 25) (n := 1) ⟨hx, hb, hml, hown, hts⟩ (so_X10_foundBehind l G h v2 M_8 _ hw) wm_RX10_205 wi_yX10_foundBehind wv_yX10_foundBehind wn_RX10 wc_yX10_foundBehind (by decide) ⟨Nat.le_of_ble_eq_true rfl, Nat.le_of_ble_eq_true rfl⟩ ⟨rfl, rfl⟩ kh (by decide) (mk10 kh) rfl hSt hTb hP hS rfl hl.1 rfl (Nat.le_of_ble_eq_true rfl) dX10_odds_67 ⟨Nat.le_refl 0, Nat.le_refl 0⟩ (fun rr_ M_9 H locs hq hP hS => ?_)
        obtain ⟨r_10, rfl, hw⟩ := hq
        refine lv_iload_n hx hb dX10_odds_70 rfl (lv_at hl 1 rfl) ?_
        refine lv_ishr hx hb dX10_odds_71 ?_
        refine lv_iconst (v := 1) hx hb dX10_odds_72 (by decide) ?_
        refine lv_iand hx hb dX10_odds_73 ?_
        refine lv_iadd hx hb dX10_odds_74 ?_
        refine lv_topi (fun x_11 ex_11 => ?_)
        have hw := hw x_11 ex_11
        refine lv_istore (lv' := [(5, .int x_11), (0, .ref (G.1 + h)), (1, .int v1), (2, .int v2), (3, .int v3), (4, .int v4), (6, .int v6)]) hx hb dX10_odds_75 hl (by decide) rfl (fun ls hl => ?_)
        obtain ⟨x_12, ex_12⟩ : ∃ z : Int32, z = v6 + 1 := ⟨_, rfl⟩
        have hw := hw x_12 ex_12
        refine lv_iinc (v := x_12) (lv' := [(6, .int x_12), (5, .int x_11), (0, .ref (G.1 + h)), (1, .int v1), (2, .int v2), (3, .int v3), (4, .int v4)]) hx hb dX10_odds_77 hl (k := 6) rfl (by rw [ex_12]; rfl) (by decide) rfl (fun ls hl => ?_)
        refine lv_goto (tgt := 48) hx hb dX10_odds_80 (by decide) ?_
        exact ih48 x_11 x_12 M_9 _ _ _ hw hP hS (lv_sub hl [2, 3, 4, 5, 6, 1, 0] rfl)
  have J_27 : ∀  (M : Mem) (H : Heap) (locs : List Loc) (ls : Array Slot), b_X10_odds_27 h Q M → va_P G.2.1 clsA (wl G M) H → va_S (inW G) s.heap H locs → lv_has ls 7 [(0, .ref (G.1 + h))] → W p l e ({ frames := 8, cells := 0, slots := 0, locals := 188 } : Room) s m ([.ref (G.1 + h), .int a1, .int a2, .int a3] : List Value).toArray below meth c H locs 0 0 (MQ below (Pq G (Qi Q)) ([.ref (G.1 + h), .int a1, .int a2, .int a3] : List Value).toArray s 0 0 (inW G)) (F0 m 27 ls []) := by
    intro  M H locs ls  hw hP hS hl
    unfold b_X10_odds_27 at hw
    refine lv_aload_n hx hb dX10_odds_27 rfl (lv_at hl 0 rfl) ?_
    refine lv_ldc (v := (-1000000001)) hx hb hown (ht _ wk_RX10_62) dX10_odds_28 ?_
    refine mw_V (As := [.int (-1000000001)]) (rest := []) (T := TX10) (N := 25) (n := 1) ⟨hx, hb, hml, hown, hts⟩ (so_X10_errs l G h (-1000000001) M _ hw) wm_RX10_63 wi_yX10_errs wv_yX10_errs wn_RX10 wc_yX10_errs (by decide) ⟨Nat.le_of_ble_eq_true rfl, Nat.le_of_ble_eq_true rfl⟩ ⟨rfl, rfl⟩ kh (by decide) (mk10 kh) rfl hSt hTb hP hS rfl hl.1 rfl (Nat.le_of_ble_eq_true rfl) dX10_odds_30 ⟨Nat.le_refl 0, Nat.le_refl 0⟩ (fun rr_ M_13 H locs hq hP hS => ?_)
    obtain ⟨r_14, rfl, hw⟩ := hq
    exact W.iret hx hb hr (mw_end hP hSt hTb hS ⟨_, rfl, hw⟩) hS.2.2 dX10_odds_33
  refine lv_aload_n hx hb dX10_odds_0 rfl (lv_at hl 0 rfl) ?_
  refine lv_iload_n hx hb dX10_odds_1 rfl (lv_at hl 1 rfl) ?_
  refine mw_V (As := [.int a1]) (rest := []) (T := TX10) (N := 25) (n := 1) ⟨hx, hb, hml, hown, hts⟩ (so_X10_isSheep l G h a1 M _ hw) wm_RX10_91 wi_yX10_isSheep wv_yX10_isSheep wn_RX10 wc_yX10_isSheep (by decide) ⟨Nat.le_of_ble_eq_true rfl, Nat.le_of_ble_eq_true rfl⟩ ⟨rfl, rfl⟩ kh (by decide) (mk10 kh) rfl hSt hTb hP hS rfl hl.1 rfl (Nat.le_of_ble_eq_true rfl) dX10_odds_2 ⟨Nat.le_refl 0, Nat.le_refl 0⟩ (fun rr_ M_15 H locs hq hP hS => ?_)
  obtain ⟨r_16, rfl, hw⟩ := hq
  refine lv_if_eq (tgt := 27) hx hb dX10_odds_5 (by decide) (fun c_17 => ?_) (fun c_17 => ?_)
  · have hw := hw.1 c_17
    exact J_27 M_15 _ _ _ hw hP hS (lv_sub hl [0] rfl)
  · have hw := hw.2 c_17
    refine lv_iload_n hx hb dX10_odds_8 rfl (lv_at hl 2 rfl) ?_
    refine lv_iconst (v := 0) hx hb dX10_odds_9 (by decide) ?_
    refine lv_bipush (v := 60) hx hb dX10_odds_10 (by decide) ?_
    refine mw_Sx (As := [.int a2, .int 0, .int 60]) (rest := []) (n := 3) ⟨hx, hb, hml, hown, hts⟩ (so_X10_in l G a2 0 60 M_15 _ hw) wm_RX10_50 wt_yX10_in wn_RX10 wc_yX10_in (by decide) ⟨Nat.le_of_ble_eq_true rfl, Nat.le_of_ble_eq_true rfl⟩ ⟨rfl, rfl⟩ hSt hTb hP hS rfl hl.1 rfl (Nat.le_of_ble_eq_true rfl) dX10_odds_12 ⟨Nat.le_refl 0, Nat.le_refl 0⟩ (fun rr_ M_18 H locs hq hP hS => ?_)
    obtain ⟨r_19, rfl, hw⟩ := hq
    refine lv_if_eq (tgt := 27) hx hb dX10_odds_15 (by decide) (fun c_20 => ?_) (fun c_20 => ?_)
    · have hw := hw.1 c_20
      exact J_27 M_18 _ _ _ hw hP hS (lv_sub hl [0] rfl)
    · have hw := hw.2 c_20
      refine lv_iload_n hx hb dX10_odds_18 rfl (lv_at hl 3 rfl) ?_
      refine lv_iconst (v := 0) hx hb dX10_odds_19 (by decide) ?_
      refine lv_iconst (v := 1) hx hb dX10_odds_20 (by decide) ?_
      refine mw_Sx (As := [.int a3, .int 0, .int 1]) (rest := []) (n := 3) ⟨hx, hb, hml, hown, hts⟩ (so_X10_in l G a3 0 1 M_18 _ hw) wm_RX10_50 wt_yX10_in wn_RX10 wc_yX10_in (by decide) ⟨Nat.le_of_ble_eq_true rfl, Nat.le_of_ble_eq_true rfl⟩ ⟨rfl, rfl⟩ hSt hTb hP hS rfl hl.1 rfl (Nat.le_of_ble_eq_true rfl) dX10_odds_21 ⟨Nat.le_refl 0, Nat.le_refl 0⟩ (fun rr_ M_21 H locs hq hP hS => ?_)
      obtain ⟨r_22, rfl, hw⟩ := hq
      refine lv_if_ne (tgt := 34) hx hb dX10_odds_24 (by decide) (fun c_23 => ?_) (fun c_23 => ?_)
      · have hw := hw.1 c_23
        refine lv_aload_n hx hb dX10_odds_34 rfl (lv_at hl 0 rfl) ?_
        refine lv_iload_n hx hb dX10_odds_35 rfl (lv_at hl 1 rfl) ?_
        refine lv_iconst (v := 2) hx hb dX10_odds_36 (by decide) ?_
        refine mw_V (As := [.int a1, .int 2]) (rest := []) (T := TX10) (N := 25) (n := 2) ⟨hx, hb, hml, hown, hts⟩ (so_X10_its l G h a1 2 M_21 _ hw) wm_RX10_67 wi_yX10_its wv_yX10_its wn_RX10 wc_yX10_its (by decide) ⟨Nat.le_of_ble_eq_true rfl, Nat.le_of_ble_eq_true rfl⟩ ⟨rfl, rfl⟩ kh (by decide) (mk10 kh) rfl hSt hTb hP hS rfl hl.1 rfl (Nat.le_of_ble_eq_true rfl) dX10_odds_37 ⟨Nat.le_refl 0, Nat.le_refl 0⟩ (fun rr_ M_24 H locs hq hP hS => ?_)
        obtain ⟨r_25, rfl, hw⟩ := hq
        refine lv_istore (lv' := [(4, .int r_25), (0, .ref (G.1 + h)), (1, .int a1), (2, .int a2), (3, .int a3)]) hx hb dX10_odds_40 hl (by decide) rfl (fun ls hl => ?_)
        refine lv_iconst (v := 0) hx hb dX10_odds_42 (by decide) ?_
        refine lv_istore (lv' := [(5, .int 0), (4, .int r_25), (0, .ref (G.1 + h)), (1, .int a1), (2, .int a2), (3, .int a3)]) hx hb dX10_odds_43 hl (by decide) rfl (fun ls hl => ?_)
        refine lv_iconst (v := 0) hx hb dX10_odds_45 (by decide) ?_
        refine lv_istore (lv' := [(6, .int 0), (5, .int 0), (4, .int r_25), (0, .ref (G.1 + h)), (1, .int a1), (2, .int a2), (3, .int a3)]) hx hb dX10_odds_46 hl (by decide) rfl (fun ls hl => ?_)
        obtain ⟨n_, hw⟩ := hw
        exact L_48 a1 a2 a3 r_25 n_ 0 0 M_24 _ _ _ hw hP hS (lv_sub hl [3, 4, 5, 6, 2, 1, 0] rfl)
      · have hw := hw.2 c_23
        exact J_27 M_21 _ _ _ hw hP hS (lv_sub hl [0] rfl)
def wp_X10_seed (h : Nat) (a1 : Int32) (M : Mem) (Q : Int32 → Mem → Prop) : Prop :=
  kdT h = 10 ∧ (∀ x_2, x_2 = M (h + 1) 1 → ∀ M_4, M_4 = mu M (h + 1) 1 a1 → Q x_2 M_4)
set_option maxHeartbeats 4000000 in
set_option maxRecDepth 100000 in
theorem so_X10_seed (l : Launch) (G : Gm) (h : Nat) (a1 : Int32) (M : Mem) (Q : Int32 → Mem → Prop) (hw : wp_X10_seed h a1 M Q) : Ct l G yX10_seed cX10_seed 3 (some .int) ({ frames := 0, cells := 0, slots := 0, locals := 0 } : Room) [.ref (G.1 + h), .int a1] M (Qi Q) := by
  unfold wp_X10_seed at hw
  obtain ⟨kh, hw⟩ := hw
  refine ct_of (by decide) (Nat.le_of_ble_eq_true rfl) ?_
  intro p e s m below meth c E_ ls H hl hP hS
  obtain ⟨hx, hb, hml, hown, hts, ht, hr, hlocks, hSt, hTb⟩ := E_
  have hl : lv_has ls 3 [(0, .ref (G.1 + h)), (1, .int a1)] := hl
  refine lv_aload_n hx hb dX10_seed_0 rfl (lv_at hl 0 rfl) ?_
  refine mw_get (ci := 10) (v := .ref (G.1 + (h + 1))) (C := RX10) (T := TX10) (N := 25) hx hb ht inX10 hown hSt hP kh (by decide) (mk10 kh) rfl 0 (by decide) (ht _ wf_RX10_7) rfl rfl dX10_seed_1 ?_
  refine lv_iconst (v := 1) hx hb dX10_seed_4 (by decide) ?_
  refine mw_ialdc hx hb hSt hP (ks10_0 kh) (ln10_0 kh) 1 (by decide) dX10_seed_5 ?_
  refine lv_topi (fun x_2 ex_2 => ?_)
  have hw := hw x_2 ex_2
  refine lv_istore_n (lv' := [(2, .int x_2), (0, .ref (G.1 + h)), (1, .int a1)]) hx hb dX10_seed_6 rfl hl (by decide) rfl (fun ls hl => ?_)
  refine lv_aload_n hx hb dX10_seed_7 rfl (lv_at hl 1 rfl) ?_
  refine mw_get (ci := 10) (v := .ref (G.1 + (h + 1))) (C := RX10) (T := TX10) (N := 25) hx hb ht inX10 hown hSt hP kh (by decide) (mk10 kh) rfl 0 (by decide) (ht _ wf_RX10_7) rfl rfl dX10_seed_8 ?_
  refine lv_iconst (v := 1) hx hb dX10_seed_11 (by decide) ?_
  refine lv_iload_n hx hb dX10_seed_12 rfl (lv_at hl 2 rfl) ?_
  refine mw_iastc hx hb hSt hP hS (ks10_0 kh) (ln10_0 kh) 1 (by decide) dX10_seed_13 (fun M_4 H locs eM_4 hP hS => ?_)
  have hw := hw M_4 eM_4
  refine lv_iload_n hx hb dX10_seed_14 rfl (lv_at hl 0 rfl) ?_
  exact W.iret hx hb hr (mw_end hP hSt hTb hS ⟨_, rfl, hw⟩) hS.2.2 dX10_seed_15
def wp_X10_ran (h : Nat) (a1 : Int32) (M : Mem) (Q : Mem → Prop) : Prop :=
  kdT h = 10 ∧ ((40 ≤ (M h 21) → Q M) ∧ (¬ 40 ≤ (M h 21) → vp_in (M h 21) 40 ∧ ∀ M_3, M_3 = mu M (h + 13) (M h 21).toNatClampNeg a1 → ∀ M_4, M_4 = mu M_3 h 21 ((M_3 h 21) + 1) → Q M_4))
set_option maxHeartbeats 4000000 in
set_option maxRecDepth 100000 in
theorem so_X10_ran (l : Launch) (G : Gm) (h : Nat) (a1 : Int32) (M : Mem) (Q : Mem → Prop) (hw : wp_X10_ran h a1 M Q) : Ct l G yX10_ran cX10_ran 2 none ({ frames := 0, cells := 0, slots := 0, locals := 0 } : Room) [.ref (G.1 + h), .int a1] M (Qv Q) := by
  unfold wp_X10_ran at hw
  obtain ⟨kh, hw⟩ := hw
  refine ct_of (by decide) (Nat.le_of_ble_eq_true rfl) ?_
  intro p e s m below meth c E_ ls H hl hP hS
  obtain ⟨hx, hb, hml, hown, hts, ht, hr, hlocks, hSt, hTb⟩ := E_
  have hl : lv_has ls 2 [(0, .ref (G.1 + h)), (1, .int a1)] := hl
  refine lv_aload_n hx hb dX10_ran_0 rfl (lv_at hl 0 rfl) ?_
  refine mw_get (ci := 10) (v := .int (M h 21)) (C := RX10) (T := TX10) (N := 25) hx hb ht inX10 hown hSt hP kh (by decide) (mk10 kh) rfl 21 (by decide) (ht _ wf_RX10_217) rfl rfl dX10_ran_1 ?_
  refine lv_bipush (v := 40) hx hb dX10_ran_4 (by decide) ?_
  refine lv_icmp_ge (tgt := 29) hx hb dX10_ran_6 (by decide) (fun c_1 => ?_) (fun c_1 => ?_)
  · have hw := hw.1 c_1
    exact W.vret hx hb hr (mw_end hP hSt hTb hS ⟨rfl, hw⟩) hS.2.2 dX10_ran_29
  · have hw := hw.2 c_1
    refine lv_aload_n hx hb dX10_ran_9 rfl (lv_at hl 0 rfl) ?_
    refine mw_get (ci := 10) (v := .ref (G.1 + (h + 13))) (C := RX10) (T := TX10) (N := 25) hx hb ht inX10 hown hSt hP kh (by decide) (mk10 kh) rfl 20 (by decide) (ht _ wf_RX10_46) rfl rfl dX10_ran_10 ?_
    refine lv_aload_n hx hb dX10_ran_13 rfl (lv_at hl 0 rfl) ?_
    refine mw_get (ci := 10) (v := .int (M h 21)) (C := RX10) (T := TX10) (N := 25) hx hb ht inX10 hown hSt hP kh (by decide) (mk10 kh) rfl 21 (by decide) (ht _ wf_RX10_217) rfl rfl dX10_ran_14 ?_
    refine lv_iload_n hx hb dX10_ran_17 rfl (lv_at hl 1 rfl) ?_
    obtain ⟨c_2, hw⟩ := hw
    refine mw_iast hx hb hSt hP hS (ks10_20 kh) (by rw [(ln10_20 kh)]; exact c_2) dX10_ran_18 (fun M_3 H locs eM_3 hP hS => ?_)
    have hw := hw M_3 eM_3
    refine lv_aload_n hx hb dX10_ran_19 rfl (lv_at hl 0 rfl) ?_
    refine lv_dup hx hb dX10_ran_20 rfl ?_
    refine mw_get (ci := 10) (v := .int (M_3 h 21)) (C := RX10) (T := TX10) (N := 25) hx hb ht inX10 hown hSt hP kh (by decide) (mk10 kh) rfl 21 (by decide) (ht _ wf_RX10_217) rfl rfl dX10_ran_21 ?_
    refine lv_iconst (v := 1) hx hb dX10_ran_24 (by decide) ?_
    refine lv_iadd hx hb dX10_ran_25 ?_
    refine mw_put (ci := 10) (v := (M_3 h 21) + 1) (ty := .int) (C := RX10) (T := TX10) (N := 25) hx hb ht inX10 tyX10 tyX10_ok nmX10 hown hSt hP hS kh (by decide) (mk10 kh) rfl 21 (by decide) (ht _ wf_RX10_217) rfl rfl (by decide +kernel) (vp_nar_int _) rfl (Nat.le_of_ble_eq_true rfl) (by rw [mk10 kh]; simp [mu]) dX10_ran_26 (fun M_4 H locs eM_4 hP hS => ?_)
    have hw := hw M_4 eM_4
    exact W.vret hx hb hr (mw_end hP hSt hTb hS ⟨rfl, hw⟩) hS.2.2 dX10_ran_29
def wb_X10_bleatsIn (g0 : Nat → Int32 → Int32 → Mem → (Int32 → Mem → Prop) → Prop) (h : Nat) (a1 : Int32) (a2 : Int32) (M : Mem) (Q : Int32 → Mem → Prop) : Prop :=
  kdT h = 10 ∧ ((¬ a1 = 0 → (¬ a1 = 1 → wp_X10_above a1 M (fun r_4 M_3 => g0 h r_4 a2 M_3 (fun r_6 M_5 => Q r_6 M_5))) ∧ (a1 = 1 → wp_X10_ran h 20 M (fun M_7 => g0 h 0 a2 M_7 (fun r_9 M_8 => Q (r_9 * 3) M_8)))) ∧ (a1 = 0 → wp_X10_ran h 10 M (fun M_10 => Q (a2 + (M_10 h 23)) M_10)))
def rgB (d : Nat) : Room := { frames := 1 + d, cells := 0, slots := 0, locals := 21 + d * 22 }
def wg_B : Nat → (Nat → Int32 → Int32 → Mem → (Int32 → Mem → Prop) → Prop)
  | 0 => (fun _ _ _ _ _ => False)
  | d + 1 => (wb_X10_bleatsIn ((wg_B d)))
def wp_X10_bleatsIn (d : Nat) : Nat → Int32 → Int32 → Mem → (Int32 → Mem → Prop) → Prop := (wg_B d)
set_option maxHeartbeats 8000000 in
set_option maxRecDepth 100000 in
theorem sg_B (l : Launch) (G : Gm) : ∀ d : Nat, (∀ (h : Nat) (a1 : Int32) (a2 : Int32) (M : Mem) (Q : Int32 → Mem → Prop), (wg_B d) h a1 a2 M Q → Ct l G yX10_bleatsIn cX10_bleatsIn 3 (some .int) (rgB d) [.ref (G.1 + h), .int a1, .int a2] M (Qi Q)) := by
  intro d
  induction d with
  | zero => intro _ _ _ _ _ hw_; exact False.elim hw_
  | succ d ih =>
    obtain ⟨g0, eg0⟩ : ∃ z, z = (wg_B d) := ⟨_, rfl⟩
    rw [← eg0] at ih
    intro h a1 a2 M Q hw
    have hw : wb_X10_bleatsIn g0 h a1 a2 M Q := by rw [eg0]; exact hw
    unfold wb_X10_bleatsIn at hw
    obtain ⟨kh, hw⟩ := hw
    refine ct_of (by decide) (Nat.le_of_ble_eq_true rfl) ?_
    intro p e s m below meth c E_ ls H hl hP hS
    obtain ⟨hx, hb, hml, hown, hts, ht, hr, hlocks, hSt, hTb⟩ := E_
    have hl : lv_has ls 3 [(0, .ref (G.1 + h)), (1, .int a1), (2, .int a2)] := hl
    refine lv_iload_n hx hb dX10_bleatsIn_0 rfl (lv_at hl 1 rfl) ?_
    refine lv_if_ne (tgt := 17) hx hb dX10_bleatsIn_1 (by decide) (fun c_1 => ?_) (fun c_1 => ?_)
    · have hw := hw.1 c_1
      refine lv_iload_n hx hb dX10_bleatsIn_17 rfl (lv_at hl 1 rfl) ?_
      refine lv_iconst (v := 1) hx hb dX10_bleatsIn_18 (by decide) ?_
      refine lv_icmp_ne (tgt := 37) hx hb dX10_bleatsIn_19 (by decide) (fun c_2 => ?_) (fun c_2 => ?_)
      · have hw := hw.1 c_2
        refine lv_aload_n hx hb dX10_bleatsIn_37 rfl (lv_at hl 0 rfl) ?_
        refine lv_iload_n hx hb dX10_bleatsIn_38 rfl (lv_at hl 1 rfl) ?_
        refine mw_Sx (As := [.int a1]) (rest := [.ref (G.1 + h)]) (n := 1) ⟨hx, hb, hml, hown, hts⟩ (so_X10_above l G a1 M _ hw) wm_RX10_100 wt_yX10_above wn_RX10 wc_yX10_above (by decide) (by constructor <;> (simp only [rgB]; omega)) ⟨rfl, rfl⟩ hSt hTb hP hS rfl hl.1 rfl (Nat.le_of_ble_eq_true rfl) dX10_bleatsIn_39 ⟨Nat.le_refl 0, Nat.le_refl 0⟩ (fun rr_ M_3 H locs hq hP hS => ?_)
        obtain ⟨r_4, rfl, hw⟩ := hq
        refine lv_iload_n hx hb dX10_bleatsIn_42 rfl (lv_at hl 2 rfl) ?_
        refine mw_V (As := [.int r_4, .int a2]) (rest := []) (T := TX10) (N := 25) (n := 2) ⟨hx, hb, hml, hown, hts⟩ (ih h r_4 a2 M_3 _ hw) wm_RX10_226 wi_yX10_bleatsIn wv_yX10_bleatsIn wn_RX10 wc_yX10_bleatsIn (by decide) (by constructor <;> (simp only [rgB]; omega)) ⟨rfl, rfl⟩ kh (by decide) (mk10 kh) rfl hSt hTb hP hS rfl hl.1 rfl (Nat.le_of_ble_eq_true rfl) dX10_bleatsIn_43 ⟨Nat.le_refl 0, Nat.le_refl 0⟩ (fun rr_ M_5 H locs hq hP hS => ?_)
        obtain ⟨r_6, rfl, hw⟩ := hq
        exact W.iret hx hb hr (mw_end hP hSt hTb hS ⟨_, rfl, hw⟩) hS.2.2 dX10_bleatsIn_46
      · have hw := hw.2 c_2
        refine lv_aload_n hx hb dX10_bleatsIn_22 rfl (lv_at hl 0 rfl) ?_
        refine lv_bipush (v := 20) hx hb dX10_bleatsIn_23 (by decide) ?_
        refine mw_V (As := [.int 20]) (rest := []) (T := TX10) (N := 25) (n := 1) ⟨hx, hb, hml, hown, hts⟩ (so_X10_ran l G h 20 M _ hw) wm_RX10_220 wi_yX10_ran wv_yX10_ran wn_RX10 wc_yX10_ran (by decide) (by constructor <;> (simp only [rgB]; omega)) ⟨rfl, rfl⟩ kh (by decide) (mk10 kh) rfl hSt hTb hP hS rfl hl.1 rfl (Nat.le_of_ble_eq_true rfl) dX10_bleatsIn_25 ⟨Nat.le_refl 0, Nat.le_refl 0⟩ (fun rr_ M_7 H locs hq hP hS => ?_)
        obtain ⟨rfl, hw⟩ := hq
        refine lv_aload_n hx hb dX10_bleatsIn_28 rfl (lv_at hl 0 rfl) ?_
        refine lv_iconst (v := 0) hx hb dX10_bleatsIn_29 (by decide) ?_
        refine lv_iload_n hx hb dX10_bleatsIn_30 rfl (lv_at hl 2 rfl) ?_
        refine mw_V (As := [.int 0, .int a2]) (rest := []) (T := TX10) (N := 25) (n := 2) ⟨hx, hb, hml, hown, hts⟩ (ih h 0 a2 M_7 _ hw) wm_RX10_226 wi_yX10_bleatsIn wv_yX10_bleatsIn wn_RX10 wc_yX10_bleatsIn (by decide) (by constructor <;> (simp only [rgB]; omega)) ⟨rfl, rfl⟩ kh (by decide) (mk10 kh) rfl hSt hTb hP hS rfl hl.1 rfl (Nat.le_of_ble_eq_true rfl) dX10_bleatsIn_31 ⟨Nat.le_refl 0, Nat.le_refl 0⟩ (fun rr_ M_8 H locs hq hP hS => ?_)
        obtain ⟨r_9, rfl, hw⟩ := hq
        refine lv_iconst (v := 3) hx hb dX10_bleatsIn_34 (by decide) ?_
        refine lv_imul hx hb dX10_bleatsIn_35 ?_
        exact W.iret hx hb hr (mw_end hP hSt hTb hS ⟨_, rfl, hw⟩) hS.2.2 dX10_bleatsIn_36
    · have hw := hw.2 c_1
      refine lv_aload_n hx hb dX10_bleatsIn_4 rfl (lv_at hl 0 rfl) ?_
      refine lv_bipush (v := 10) hx hb dX10_bleatsIn_5 (by decide) ?_
      refine mw_V (As := [.int 10]) (rest := []) (T := TX10) (N := 25) (n := 1) ⟨hx, hb, hml, hown, hts⟩ (so_X10_ran l G h 10 M _ hw) wm_RX10_220 wi_yX10_ran wv_yX10_ran wn_RX10 wc_yX10_ran (by decide) (by constructor <;> (simp only [rgB]; omega)) ⟨rfl, rfl⟩ kh (by decide) (mk10 kh) rfl hSt hTb hP hS rfl hl.1 rfl (Nat.le_of_ble_eq_true rfl) dX10_bleatsIn_7 ⟨Nat.le_refl 0, Nat.le_refl 0⟩ (fun rr_ M_10 H locs hq hP hS => ?_)
      obtain ⟨rfl, hw⟩ := hq
      refine lv_iload_n hx hb dX10_bleatsIn_10 rfl (lv_at hl 2 rfl) ?_
      refine lv_aload_n hx hb dX10_bleatsIn_11 rfl (lv_at hl 0 rfl) ?_
      refine mw_get (ci := 10) (v := .int (M_10 h 23)) (C := RX10) (T := TX10) (N := 25) hx hb ht inX10 hown hSt hP kh (by decide) (mk10 kh) rfl 23 (by decide) (ht _ wf_RX10_223) rfl rfl dX10_bleatsIn_12 ?_
      refine lv_iadd hx hb dX10_bleatsIn_15 ?_
      exact W.iret hx hb hr (mw_end hP hSt hTb hS ⟨_, rfl, hw⟩) hS.2.2 dX10_bleatsIn_16
theorem so_X10_bleatsIn (l : Launch) (G : Gm) (h : Nat) (a1 : Int32) (a2 : Int32) (M : Mem) (Q : Int32 → Mem → Prop) (hw : wp_X10_bleatsIn 12 h a1 a2 M Q) : Ct l G yX10_bleatsIn cX10_bleatsIn 3 (some .int) (rgB 12) [.ref (G.1 + h), .int a1, .int a2] M (Qi Q) := (sg_B l G 12) h a1 a2 M Q hw
def wb_X10_shiversIn (g0 : Nat → Int32 → Int32 → Mem → (Int32 → Mem → Prop) → Prop) (h : Nat) (a1 : Int32) (a2 : Int32) (M : Mem) (Q : Int32 → Mem → Prop) : Prop :=
  kdT h = 10 ∧ ((¬ a1 = 0 → (¬ a1 = 3 → (¬ a1 = 6 → wp_X10_above a1 M (fun r_5 M_4 => g0 h r_5 a2 M_4 (fun r_7 M_6 => Q r_7 M_6))) ∧ (a1 = 6 → wp_X10_ran h 70 M (fun M_8 => g0 h 3 a2 M_8 (fun r_10 M_9 => Q (r_10 ^^^ (M_9 h 23)) M_9)))) ∧ (a1 = 3 → wp_X10_ran h 40 M (fun M_11 => g0 h 0 a2 M_11 (fun r_13 M_12 => Q (-r_13) M_12)))) ∧ (a1 = 0 → wp_X10_ran h 12 M (fun M_14 => Q (a2 - (M_14 h 24)) M_14)))
def rgS (d : Nat) : Room := { frames := 1 + d, cells := 0, slots := 0, locals := 21 + d * 22 }
def wg_S : Nat → (Nat → Int32 → Int32 → Mem → (Int32 → Mem → Prop) → Prop)
  | 0 => (fun _ _ _ _ _ => False)
  | d + 1 => (wb_X10_shiversIn ((wg_S d)))
def wp_X10_shiversIn (d : Nat) : Nat → Int32 → Int32 → Mem → (Int32 → Mem → Prop) → Prop := (wg_S d)
set_option maxHeartbeats 8000000 in
set_option maxRecDepth 100000 in
theorem sg_S (l : Launch) (G : Gm) : ∀ d : Nat, (∀ (h : Nat) (a1 : Int32) (a2 : Int32) (M : Mem) (Q : Int32 → Mem → Prop), (wg_S d) h a1 a2 M Q → Ct l G yX10_shiversIn cX10_shiversIn 3 (some .int) (rgS d) [.ref (G.1 + h), .int a1, .int a2] M (Qi Q)) := by
  intro d
  induction d with
  | zero => intro _ _ _ _ _ hw_; exact False.elim hw_
  | succ d ih =>
    obtain ⟨g0, eg0⟩ : ∃ z, z = (wg_S d) := ⟨_, rfl⟩
    rw [← eg0] at ih
    intro h a1 a2 M Q hw
    have hw : wb_X10_shiversIn g0 h a1 a2 M Q := by rw [eg0]; exact hw
    unfold wb_X10_shiversIn at hw
    obtain ⟨kh, hw⟩ := hw
    refine ct_of (by decide) (Nat.le_of_ble_eq_true rfl) ?_
    intro p e s m below meth c E_ ls H hl hP hS
    obtain ⟨hx, hb, hml, hown, hts, ht, hr, hlocks, hSt, hTb⟩ := E_
    have hl : lv_has ls 3 [(0, .ref (G.1 + h)), (1, .int a1), (2, .int a2)] := hl
    refine lv_iload_n hx hb dX10_shiversIn_0 rfl (lv_at hl 1 rfl) ?_
    refine lv_if_ne (tgt := 17) hx hb dX10_shiversIn_1 (by decide) (fun c_1 => ?_) (fun c_1 => ?_)
    · have hw := hw.1 c_1
      refine lv_iload_n hx hb dX10_shiversIn_17 rfl (lv_at hl 1 rfl) ?_
      refine lv_iconst (v := 3) hx hb dX10_shiversIn_18 (by decide) ?_
      refine lv_icmp_ne (tgt := 36) hx hb dX10_shiversIn_19 (by decide) (fun c_2 => ?_) (fun c_2 => ?_)
      · have hw := hw.1 c_2
        refine lv_iload_n hx hb dX10_shiversIn_36 rfl (lv_at hl 1 rfl) ?_
        refine lv_bipush (v := 6) hx hb dX10_shiversIn_37 (by decide) ?_
        refine lv_icmp_ne (tgt := 60) hx hb dX10_shiversIn_39 (by decide) (fun c_3 => ?_) (fun c_3 => ?_)
        · have hw := hw.1 c_3
          refine lv_aload_n hx hb dX10_shiversIn_60 rfl (lv_at hl 0 rfl) ?_
          refine lv_iload_n hx hb dX10_shiversIn_61 rfl (lv_at hl 1 rfl) ?_
          refine mw_Sx (As := [.int a1]) (rest := [.ref (G.1 + h)]) (n := 1) ⟨hx, hb, hml, hown, hts⟩ (so_X10_above l G a1 M _ hw) wm_RX10_100 wt_yX10_above wn_RX10 wc_yX10_above (by decide) (by constructor <;> (simp only [rgS]; omega)) ⟨rfl, rfl⟩ hSt hTb hP hS rfl hl.1 rfl (Nat.le_of_ble_eq_true rfl) dX10_shiversIn_62 ⟨Nat.le_refl 0, Nat.le_refl 0⟩ (fun rr_ M_4 H locs hq hP hS => ?_)
          obtain ⟨r_5, rfl, hw⟩ := hq
          refine lv_iload_n hx hb dX10_shiversIn_65 rfl (lv_at hl 2 rfl) ?_
          refine mw_V (As := [.int r_5, .int a2]) (rest := []) (T := TX10) (N := 25) (n := 2) ⟨hx, hb, hml, hown, hts⟩ (ih h r_5 a2 M_4 _ hw) wm_RX10_232 wi_yX10_shiversIn wv_yX10_shiversIn wn_RX10 wc_yX10_shiversIn (by decide) (by constructor <;> (simp only [rgS]; omega)) ⟨rfl, rfl⟩ kh (by decide) (mk10 kh) rfl hSt hTb hP hS rfl hl.1 rfl (Nat.le_of_ble_eq_true rfl) dX10_shiversIn_66 ⟨Nat.le_refl 0, Nat.le_refl 0⟩ (fun rr_ M_6 H locs hq hP hS => ?_)
          obtain ⟨r_7, rfl, hw⟩ := hq
          exact W.iret hx hb hr (mw_end hP hSt hTb hS ⟨_, rfl, hw⟩) hS.2.2 dX10_shiversIn_69
        · have hw := hw.2 c_3
          refine lv_aload_n hx hb dX10_shiversIn_42 rfl (lv_at hl 0 rfl) ?_
          refine lv_bipush (v := 70) hx hb dX10_shiversIn_43 (by decide) ?_
          refine mw_V (As := [.int 70]) (rest := []) (T := TX10) (N := 25) (n := 1) ⟨hx, hb, hml, hown, hts⟩ (so_X10_ran l G h 70 M _ hw) wm_RX10_220 wi_yX10_ran wv_yX10_ran wn_RX10 wc_yX10_ran (by decide) (by constructor <;> (simp only [rgS]; omega)) ⟨rfl, rfl⟩ kh (by decide) (mk10 kh) rfl hSt hTb hP hS rfl hl.1 rfl (Nat.le_of_ble_eq_true rfl) dX10_shiversIn_45 ⟨Nat.le_refl 0, Nat.le_refl 0⟩ (fun rr_ M_8 H locs hq hP hS => ?_)
          obtain ⟨rfl, hw⟩ := hq
          refine lv_aload_n hx hb dX10_shiversIn_48 rfl (lv_at hl 0 rfl) ?_
          refine lv_iconst (v := 3) hx hb dX10_shiversIn_49 (by decide) ?_
          refine lv_iload_n hx hb dX10_shiversIn_50 rfl (lv_at hl 2 rfl) ?_
          refine mw_V (As := [.int 3, .int a2]) (rest := []) (T := TX10) (N := 25) (n := 2) ⟨hx, hb, hml, hown, hts⟩ (ih h 3 a2 M_8 _ hw) wm_RX10_232 wi_yX10_shiversIn wv_yX10_shiversIn wn_RX10 wc_yX10_shiversIn (by decide) (by constructor <;> (simp only [rgS]; omega)) ⟨rfl, rfl⟩ kh (by decide) (mk10 kh) rfl hSt hTb hP hS rfl hl.1 rfl (Nat.le_of_ble_eq_true rfl) dX10_shiversIn_51 ⟨Nat.le_refl 0, Nat.le_refl 0⟩ (fun rr_ M_9 H locs hq hP hS => ?_)
          obtain ⟨r_10, rfl, hw⟩ := hq
          refine lv_aload_n hx hb dX10_shiversIn_54 rfl (lv_at hl 0 rfl) ?_
          refine mw_get (ci := 10) (v := .int (M_9 h 23)) (C := RX10) (T := TX10) (N := 25) hx hb ht inX10 hown hSt hP kh (by decide) (mk10 kh) rfl 23 (by decide) (ht _ wf_RX10_223) rfl rfl dX10_shiversIn_55 ?_
          refine lv_ixor hx hb dX10_shiversIn_58 ?_
          exact W.iret hx hb hr (mw_end hP hSt hTb hS ⟨_, rfl, hw⟩) hS.2.2 dX10_shiversIn_59
      · have hw := hw.2 c_2
        refine lv_aload_n hx hb dX10_shiversIn_22 rfl (lv_at hl 0 rfl) ?_
        refine lv_bipush (v := 40) hx hb dX10_shiversIn_23 (by decide) ?_
        refine mw_V (As := [.int 40]) (rest := []) (T := TX10) (N := 25) (n := 1) ⟨hx, hb, hml, hown, hts⟩ (so_X10_ran l G h 40 M _ hw) wm_RX10_220 wi_yX10_ran wv_yX10_ran wn_RX10 wc_yX10_ran (by decide) (by constructor <;> (simp only [rgS]; omega)) ⟨rfl, rfl⟩ kh (by decide) (mk10 kh) rfl hSt hTb hP hS rfl hl.1 rfl (Nat.le_of_ble_eq_true rfl) dX10_shiversIn_25 ⟨Nat.le_refl 0, Nat.le_refl 0⟩ (fun rr_ M_11 H locs hq hP hS => ?_)
        obtain ⟨rfl, hw⟩ := hq
        refine lv_aload_n hx hb dX10_shiversIn_28 rfl (lv_at hl 0 rfl) ?_
        refine lv_iconst (v := 0) hx hb dX10_shiversIn_29 (by decide) ?_
        refine lv_iload_n hx hb dX10_shiversIn_30 rfl (lv_at hl 2 rfl) ?_
        refine mw_V (As := [.int 0, .int a2]) (rest := []) (T := TX10) (N := 25) (n := 2) ⟨hx, hb, hml, hown, hts⟩ (ih h 0 a2 M_11 _ hw) wm_RX10_232 wi_yX10_shiversIn wv_yX10_shiversIn wn_RX10 wc_yX10_shiversIn (by decide) (by constructor <;> (simp only [rgS]; omega)) ⟨rfl, rfl⟩ kh (by decide) (mk10 kh) rfl hSt hTb hP hS rfl hl.1 rfl (Nat.le_of_ble_eq_true rfl) dX10_shiversIn_31 ⟨Nat.le_refl 0, Nat.le_refl 0⟩ (fun rr_ M_12 H locs hq hP hS => ?_)
        obtain ⟨r_13, rfl, hw⟩ := hq
        refine lv_ineg hx hb dX10_shiversIn_34 ?_
        exact W.iret hx hb hr (mw_end hP hSt hTb hS ⟨_, rfl, hw⟩) hS.2.2 dX10_shiversIn_35
    · have hw := hw.2 c_1
      refine lv_aload_n hx hb dX10_shiversIn_4 rfl (lv_at hl 0 rfl) ?_
      refine lv_bipush (v := 12) hx hb dX10_shiversIn_5 (by decide) ?_
      refine mw_V (As := [.int 12]) (rest := []) (T := TX10) (N := 25) (n := 1) ⟨hx, hb, hml, hown, hts⟩ (so_X10_ran l G h 12 M _ hw) wm_RX10_220 wi_yX10_ran wv_yX10_ran wn_RX10 wc_yX10_ran (by decide) (by constructor <;> (simp only [rgS]; omega)) ⟨rfl, rfl⟩ kh (by decide) (mk10 kh) rfl hSt hTb hP hS rfl hl.1 rfl (Nat.le_of_ble_eq_true rfl) dX10_shiversIn_7 ⟨Nat.le_refl 0, Nat.le_refl 0⟩ (fun rr_ M_14 H locs hq hP hS => ?_)
      obtain ⟨rfl, hw⟩ := hq
      refine lv_iload_n hx hb dX10_shiversIn_10 rfl (lv_at hl 2 rfl) ?_
      refine lv_aload_n hx hb dX10_shiversIn_11 rfl (lv_at hl 0 rfl) ?_
      refine mw_get (ci := 10) (v := .int (M_14 h 24)) (C := RX10) (T := TX10) (N := 25) hx hb ht inX10 hown hSt hP kh (by decide) (mk10 kh) rfl 24 (by decide) (ht _ wf_RX10_229) rfl rfl dX10_shiversIn_12 ?_
      refine lv_isub hx hb dX10_shiversIn_15 ?_
      exact W.iret hx hb hr (mw_end hP hSt hTb hS ⟨_, rfl, hw⟩) hS.2.2 dX10_shiversIn_16
theorem so_X10_shiversIn (l : Launch) (G : Gm) (h : Nat) (a1 : Int32) (a2 : Int32) (M : Mem) (Q : Int32 → Mem → Prop) (hw : wp_X10_shiversIn 12 h a1 a2 M Q) : Ct l G yX10_shiversIn cX10_shiversIn 3 (some .int) (rgS 12) [.ref (G.1 + h), .int a1, .int a2] M (Qi Q) := (sg_S l G 12) h a1 a2 M Q hw
def wb_X10_waitsIn (g0 : Nat → Int32 → Int32 → Mem → (Int32 → Mem → Prop) → Prop) (h : Nat) (a1 : Int32) (a2 : Int32) (M : Mem) (Q : Int32 → Mem → Prop) : Prop :=
  kdT h = 10 ∧ ((¬ a1 = 0 → (¬ a1 = 2 → (¬ a1 = 5 → wp_X10_above a1 M (fun r_5 M_4 => g0 h r_5 a2 M_4 (fun r_7 M_6 => Q r_7 M_6))) ∧ (a1 = 5 → wp_X10_ran h 60 M (fun M_8 => g0 h 2 (a2 + 1) M_8 (fun r_10 M_9 => Q r_10 M_9)))) ∧ (a1 = 2 → wp_X10_ran h 30 M (fun M_11 => g0 h 0 a2 M_11 (fun r_13 M_12 => wp_X10_shiversIn 12 h (M_12 h 22) 1 M_12 (fun r_15 M_14 => Q (r_13 - r_15) M_14))))) ∧ (a1 = 0 → wp_X10_ran h 11 M (fun M_16 => wp_X10_bleatsIn 12 h (M_16 h 22) a2 M_16 (fun r_18 M_17 => Q (r_18 * 2) M_17))))
def rgW (d : Nat) : Room := { frames := 14 + d, cells := 0, slots := 0, locals := 307 + d * 23 }
def wg_W : Nat → (Nat → Int32 → Int32 → Mem → (Int32 → Mem → Prop) → Prop)
  | 0 => (fun _ _ _ _ _ => False)
  | d + 1 => (wb_X10_waitsIn ((wg_W d)))
def wp_X10_waitsIn (d : Nat) : Nat → Int32 → Int32 → Mem → (Int32 → Mem → Prop) → Prop := (wg_W d)
set_option maxHeartbeats 8000000 in
set_option maxRecDepth 100000 in
theorem sg_W (l : Launch) (G : Gm) : ∀ d : Nat, (∀ (h : Nat) (a1 : Int32) (a2 : Int32) (M : Mem) (Q : Int32 → Mem → Prop), (wg_W d) h a1 a2 M Q → Ct l G yX10_waitsIn cX10_waitsIn 4 (some .int) (rgW d) [.ref (G.1 + h), .int a1, .int a2] M (Qi Q)) := by
  intro d
  induction d with
  | zero => intro _ _ _ _ _ hw_; exact False.elim hw_
  | succ d ih =>
    obtain ⟨g0, eg0⟩ : ∃ z, z = (wg_W d) := ⟨_, rfl⟩
    rw [← eg0] at ih
    intro h a1 a2 M Q hw
    have hw : wb_X10_waitsIn g0 h a1 a2 M Q := by rw [eg0]; exact hw
    unfold wb_X10_waitsIn at hw
    obtain ⟨kh, hw⟩ := hw
    refine ct_of (by decide) (Nat.le_of_ble_eq_true rfl) ?_
    intro p e s m below meth c E_ ls H hl hP hS
    obtain ⟨hx, hb, hml, hown, hts, ht, hr, hlocks, hSt, hTb⟩ := E_
    have hl : lv_has ls 4 [(0, .ref (G.1 + h)), (1, .int a1), (2, .int a2)] := hl
    refine lv_iload_n hx hb dX10_waitsIn_0 rfl (lv_at hl 1 rfl) ?_
    refine lv_if_ne (tgt := 22) hx hb dX10_waitsIn_1 (by decide) (fun c_1 => ?_) (fun c_1 => ?_)
    · have hw := hw.1 c_1
      refine lv_iload_n hx hb dX10_waitsIn_22 rfl (lv_at hl 1 rfl) ?_
      refine lv_iconst (v := 2) hx hb dX10_waitsIn_23 (by decide) ?_
      refine lv_icmp_ne (tgt := 52) hx hb dX10_waitsIn_24 (by decide) (fun c_2 => ?_) (fun c_2 => ?_)
      · have hw := hw.1 c_2
        refine lv_iload_n hx hb dX10_waitsIn_52 rfl (lv_at hl 1 rfl) ?_
        refine lv_iconst (v := 5) hx hb dX10_waitsIn_53 (by decide) ?_
        refine lv_icmp_ne (tgt := 72) hx hb dX10_waitsIn_54 (by decide) (fun c_3 => ?_) (fun c_3 => ?_)
        · have hw := hw.1 c_3
          refine lv_aload_n hx hb dX10_waitsIn_72 rfl (lv_at hl 0 rfl) ?_
          refine lv_iload_n hx hb dX10_waitsIn_73 rfl (lv_at hl 1 rfl) ?_
          refine mw_Sx (As := [.int a1]) (rest := [.ref (G.1 + h)]) (n := 1) ⟨hx, hb, hml, hown, hts⟩ (so_X10_above l G a1 M _ hw) wm_RX10_100 wt_yX10_above wn_RX10 wc_yX10_above (by decide) (by constructor <;> (simp only [rgW]; omega)) ⟨rfl, rfl⟩ hSt hTb hP hS rfl hl.1 rfl (Nat.le_of_ble_eq_true rfl) dX10_waitsIn_74 ⟨Nat.le_refl 0, Nat.le_refl 0⟩ (fun rr_ M_4 H locs hq hP hS => ?_)
          obtain ⟨r_5, rfl, hw⟩ := hq
          refine lv_iload_n hx hb dX10_waitsIn_77 rfl (lv_at hl 2 rfl) ?_
          refine mw_V (As := [.int r_5, .int a2]) (rest := []) (T := TX10) (N := 25) (n := 2) ⟨hx, hb, hml, hown, hts⟩ (ih h r_5 a2 M_4 _ hw) wm_RX10_238 wi_yX10_waitsIn wv_yX10_waitsIn wn_RX10 wc_yX10_waitsIn (by decide) (by constructor <;> (simp only [rgW]; omega)) ⟨rfl, rfl⟩ kh (by decide) (mk10 kh) rfl hSt hTb hP hS rfl hl.1 rfl (Nat.le_of_ble_eq_true rfl) dX10_waitsIn_78 ⟨Nat.le_refl 0, Nat.le_refl 0⟩ (fun rr_ M_6 H locs hq hP hS => ?_)
          obtain ⟨r_7, rfl, hw⟩ := hq
          exact W.iret hx hb hr (mw_end hP hSt hTb hS ⟨_, rfl, hw⟩) hS.2.2 dX10_waitsIn_81
        · have hw := hw.2 c_3
          refine lv_aload_n hx hb dX10_waitsIn_57 rfl (lv_at hl 0 rfl) ?_
          refine lv_bipush (v := 60) hx hb dX10_waitsIn_58 (by decide) ?_
          refine mw_V (As := [.int 60]) (rest := []) (T := TX10) (N := 25) (n := 1) ⟨hx, hb, hml, hown, hts⟩ (so_X10_ran l G h 60 M _ hw) wm_RX10_220 wi_yX10_ran wv_yX10_ran wn_RX10 wc_yX10_ran (by decide) (by constructor <;> (simp only [rgW]; omega)) ⟨rfl, rfl⟩ kh (by decide) (mk10 kh) rfl hSt hTb hP hS rfl hl.1 rfl (Nat.le_of_ble_eq_true rfl) dX10_waitsIn_60 ⟨Nat.le_refl 0, Nat.le_refl 0⟩ (fun rr_ M_8 H locs hq hP hS => ?_)
          obtain ⟨rfl, hw⟩ := hq
          refine lv_aload_n hx hb dX10_waitsIn_63 rfl (lv_at hl 0 rfl) ?_
          refine lv_iconst (v := 2) hx hb dX10_waitsIn_64 (by decide) ?_
          refine lv_iload_n hx hb dX10_waitsIn_65 rfl (lv_at hl 2 rfl) ?_
          refine lv_iconst (v := 1) hx hb dX10_waitsIn_66 (by decide) ?_
          refine lv_iadd hx hb dX10_waitsIn_67 ?_
          refine mw_V (As := [.int 2, .int (a2 + 1)]) (rest := []) (T := TX10) (N := 25) (n := 2) ⟨hx, hb, hml, hown, hts⟩ (ih h 2 (a2 + 1) M_8 _ hw) wm_RX10_238 wi_yX10_waitsIn wv_yX10_waitsIn wn_RX10 wc_yX10_waitsIn (by decide) (by constructor <;> (simp only [rgW]; omega)) ⟨rfl, rfl⟩ kh (by decide) (mk10 kh) rfl hSt hTb hP hS rfl hl.1 rfl (Nat.le_of_ble_eq_true rfl) dX10_waitsIn_68 ⟨Nat.le_refl 0, Nat.le_refl 0⟩ (fun rr_ M_9 H locs hq hP hS => ?_)
          obtain ⟨r_10, rfl, hw⟩ := hq
          exact W.iret hx hb hr (mw_end hP hSt hTb hS ⟨_, rfl, hw⟩) hS.2.2 dX10_waitsIn_71
      · have hw := hw.2 c_2
        refine lv_aload_n hx hb dX10_waitsIn_27 rfl (lv_at hl 0 rfl) ?_
        refine lv_bipush (v := 30) hx hb dX10_waitsIn_28 (by decide) ?_
        refine mw_V (As := [.int 30]) (rest := []) (T := TX10) (N := 25) (n := 1) ⟨hx, hb, hml, hown, hts⟩ (so_X10_ran l G h 30 M _ hw) wm_RX10_220 wi_yX10_ran wv_yX10_ran wn_RX10 wc_yX10_ran (by decide) (by constructor <;> (simp only [rgW]; omega)) ⟨rfl, rfl⟩ kh (by decide) (mk10 kh) rfl hSt hTb hP hS rfl hl.1 rfl (Nat.le_of_ble_eq_true rfl) dX10_waitsIn_30 ⟨Nat.le_refl 0, Nat.le_refl 0⟩ (fun rr_ M_11 H locs hq hP hS => ?_)
        obtain ⟨rfl, hw⟩ := hq
        refine lv_aload_n hx hb dX10_waitsIn_33 rfl (lv_at hl 0 rfl) ?_
        refine lv_iconst (v := 0) hx hb dX10_waitsIn_34 (by decide) ?_
        refine lv_iload_n hx hb dX10_waitsIn_35 rfl (lv_at hl 2 rfl) ?_
        refine mw_V (As := [.int 0, .int a2]) (rest := []) (T := TX10) (N := 25) (n := 2) ⟨hx, hb, hml, hown, hts⟩ (ih h 0 a2 M_11 _ hw) wm_RX10_238 wi_yX10_waitsIn wv_yX10_waitsIn wn_RX10 wc_yX10_waitsIn (by decide) (by constructor <;> (simp only [rgW]; omega)) ⟨rfl, rfl⟩ kh (by decide) (mk10 kh) rfl hSt hTb hP hS rfl hl.1 rfl (Nat.le_of_ble_eq_true rfl) dX10_waitsIn_36 ⟨Nat.le_refl 0, Nat.le_refl 0⟩ (fun rr_ M_12 H locs hq hP hS => ?_)
        obtain ⟨r_13, rfl, hw⟩ := hq
        refine lv_istore_n (lv' := [(3, .int r_13), (0, .ref (G.1 + h)), (1, .int a1), (2, .int a2)]) hx hb dX10_waitsIn_39 rfl hl (by decide) rfl (fun ls hl => ?_)
        refine lv_iload_n hx hb dX10_waitsIn_40 rfl (lv_at hl 0 rfl) ?_
        refine lv_aload_n hx hb dX10_waitsIn_41 rfl (lv_at hl 1 rfl) ?_
        refine lv_aload_n hx hb dX10_waitsIn_42 rfl (lv_at hl 1 rfl) ?_
        refine mw_get (ci := 10) (v := .int (M_12 h 22)) (C := RX10) (T := TX10) (N := 25) hx hb ht inX10 hown hSt hP kh (by decide) (mk10 kh) rfl 22 (by decide) (ht _ wf_RX10_235) rfl rfl dX10_waitsIn_43 ?_
        refine lv_iconst (v := 1) hx hb dX10_waitsIn_46 (by decide) ?_
        refine mw_V (As := [.int (M_12 h 22), .int 1]) (rest := [.int r_13]) (T := TX10) (N := 25) (n := 2) ⟨hx, hb, hml, hown, hts⟩ (so_X10_shiversIn l G h (M_12 h 22) 1 M_12 _ hw) wm_RX10_232 wi_yX10_shiversIn wv_yX10_shiversIn wn_RX10 wc_yX10_shiversIn (by decide) (by constructor <;> (simp only [rgW, rgS]; omega)) ⟨rfl, rfl⟩ kh (by decide) (mk10 kh) rfl hSt hTb hP hS rfl hl.1 rfl (Nat.le_of_ble_eq_true rfl) dX10_waitsIn_47 ⟨Nat.le_refl 0, Nat.le_refl 0⟩ (fun rr_ M_14 H locs hq hP hS => ?_)
        obtain ⟨r_15, rfl, hw⟩ := hq
        refine lv_isub hx hb dX10_waitsIn_50 ?_
        exact W.iret hx hb hr (mw_end hP hSt hTb hS ⟨_, rfl, hw⟩) hS.2.2 dX10_waitsIn_51
    · have hw := hw.2 c_1
      refine lv_aload_n hx hb dX10_waitsIn_4 rfl (lv_at hl 0 rfl) ?_
      refine lv_bipush (v := 11) hx hb dX10_waitsIn_5 (by decide) ?_
      refine mw_V (As := [.int 11]) (rest := []) (T := TX10) (N := 25) (n := 1) ⟨hx, hb, hml, hown, hts⟩ (so_X10_ran l G h 11 M _ hw) wm_RX10_220 wi_yX10_ran wv_yX10_ran wn_RX10 wc_yX10_ran (by decide) (by constructor <;> (simp only [rgW]; omega)) ⟨rfl, rfl⟩ kh (by decide) (mk10 kh) rfl hSt hTb hP hS rfl hl.1 rfl (Nat.le_of_ble_eq_true rfl) dX10_waitsIn_7 ⟨Nat.le_refl 0, Nat.le_refl 0⟩ (fun rr_ M_16 H locs hq hP hS => ?_)
      obtain ⟨rfl, hw⟩ := hq
      refine lv_aload_n hx hb dX10_waitsIn_10 rfl (lv_at hl 0 rfl) ?_
      refine lv_aload_n hx hb dX10_waitsIn_11 rfl (lv_at hl 0 rfl) ?_
      refine mw_get (ci := 10) (v := .int (M_16 h 22)) (C := RX10) (T := TX10) (N := 25) hx hb ht inX10 hown hSt hP kh (by decide) (mk10 kh) rfl 22 (by decide) (ht _ wf_RX10_235) rfl rfl dX10_waitsIn_12 ?_
      refine lv_iload_n hx hb dX10_waitsIn_15 rfl (lv_at hl 2 rfl) ?_
      refine mw_V (As := [.int (M_16 h 22), .int a2]) (rest := []) (T := TX10) (N := 25) (n := 2) ⟨hx, hb, hml, hown, hts⟩ (so_X10_bleatsIn l G h (M_16 h 22) a2 M_16 _ hw) wm_RX10_226 wi_yX10_bleatsIn wv_yX10_bleatsIn wn_RX10 wc_yX10_bleatsIn (by decide) (by constructor <;> (simp only [rgW, rgB]; omega)) ⟨rfl, rfl⟩ kh (by decide) (mk10 kh) rfl hSt hTb hP hS rfl hl.1 rfl (Nat.le_of_ble_eq_true rfl) dX10_waitsIn_16 ⟨Nat.le_refl 0, Nat.le_refl 0⟩ (fun rr_ M_17 H locs hq hP hS => ?_)
      obtain ⟨r_18, rfl, hw⟩ := hq
      refine lv_iconst (v := 2) hx hb dX10_waitsIn_19 (by decide) ?_
      refine lv_imul hx hb dX10_waitsIn_20 ?_
      exact W.iret hx hb hr (mw_end hP hSt hTb hS ⟨_, rfl, hw⟩) hS.2.2 dX10_waitsIn_21
theorem so_X10_waitsIn (l : Launch) (G : Gm) (h : Nat) (a1 : Int32) (a2 : Int32) (M : Mem) (Q : Int32 → Mem → Prop) (hw : wp_X10_waitsIn 12 h a1 a2 M Q) : Ct l G yX10_waitsIn cX10_waitsIn 4 (some .int) (rgW 12) [.ref (G.1 + h), .int a1, .int a2] M (Qi Q) := (sg_W l G 12) h a1 a2 M Q hw
def wb_X10_tellsIn (g0 : Nat → Int32 → Int32 → Mem → (Int32 → Mem → Prop) → Prop) (h : Nat) (a1 : Int32) (a2 : Int32) (M : Mem) (Q : Int32 → Mem → Prop) : Prop :=
  kdT h = 10 ∧ ((¬ a1 = 0 → (¬ a1 = 4 → (¬ a1 = 6 → wp_X10_above a1 M (fun r_5 M_4 => g0 h r_5 a2 M_4 (fun r_7 M_6 => Q r_7 M_6))) ∧ (a1 = 6 → wp_X10_ran h 71 M (fun M_8 => wp_X10_waitsIn 12 h (M_8 h 22) a2 M_8 (fun r_10 M_9 => g0 h 3 a2 M_9 (fun r_12 M_11 => Q (r_10 - r_12) M_11))))) ∧ (a1 = 4 → wp_X10_ran h 50 M (fun M_13 => g0 h 1 a2 M_13 (fun r_15 M_14 => wp_X10_bleatsIn 12 h (M_14 h 22) 2 M_14 (fun r_17 M_16 => Q (r_15 - r_17) M_16))))) ∧ (a1 = 0 → wp_X10_ran h 13 M (fun M_18 => wp_X10_waitsIn 12 h (M_18 h 22) a2 M_18 (fun r_20 M_19 => wp_X10_shiversIn 12 h (M_19 h 22) a2 M_19 (fun r_22 M_21 => Q (r_20 ^^^ r_22) M_21)))))
def rgE (d : Nat) : Room := { frames := 27 + d, cells := 0, slots := 0, locals := 606 + d * 23 }
def wg_E : Nat → (Nat → Int32 → Int32 → Mem → (Int32 → Mem → Prop) → Prop)
  | 0 => (fun _ _ _ _ _ => False)
  | d + 1 => (wb_X10_tellsIn ((wg_E d)))
def wp_X10_tellsIn (d : Nat) : Nat → Int32 → Int32 → Mem → (Int32 → Mem → Prop) → Prop := (wg_E d)
set_option maxHeartbeats 8000000 in
set_option maxRecDepth 100000 in
theorem sg_E (l : Launch) (G : Gm) : ∀ d : Nat, (∀ (h : Nat) (a1 : Int32) (a2 : Int32) (M : Mem) (Q : Int32 → Mem → Prop), (wg_E d) h a1 a2 M Q → Ct l G yX10_tellsIn cX10_tellsIn 4 (some .int) (rgE d) [.ref (G.1 + h), .int a1, .int a2] M (Qi Q)) := by
  intro d
  induction d with
  | zero => intro _ _ _ _ _ hw_; exact False.elim hw_
  | succ d ih =>
    obtain ⟨g0, eg0⟩ : ∃ z, z = (wg_E d) := ⟨_, rfl⟩
    rw [← eg0] at ih
    intro h a1 a2 M Q hw
    have hw : wb_X10_tellsIn g0 h a1 a2 M Q := by rw [eg0]; exact hw
    unfold wb_X10_tellsIn at hw
    obtain ⟨kh, hw⟩ := hw
    refine ct_of (by decide) (Nat.le_of_ble_eq_true rfl) ?_
    intro p e s m below meth c E_ ls H hl hP hS
    obtain ⟨hx, hb, hml, hown, hts, ht, hr, hlocks, hSt, hTb⟩ := E_
    have hl : lv_has ls 4 [(0, .ref (G.1 + h)), (1, .int a1), (2, .int a2)] := hl
    refine lv_iload_n hx hb dX10_tellsIn_0 rfl (lv_at hl 1 rfl) ?_
    refine lv_if_ne (tgt := 32) hx hb dX10_tellsIn_1 (by decide) (fun c_1 => ?_) (fun c_1 => ?_)
    · have hw := hw.1 c_1
      refine lv_iload_n hx hb dX10_tellsIn_32 rfl (lv_at hl 1 rfl) ?_
      refine lv_iconst (v := 4) hx hb dX10_tellsIn_33 (by decide) ?_
      refine lv_icmp_ne (tgt := 62) hx hb dX10_tellsIn_34 (by decide) (fun c_2 => ?_) (fun c_2 => ?_)
      · have hw := hw.1 c_2
        refine lv_iload_n hx hb dX10_tellsIn_62 rfl (lv_at hl 1 rfl) ?_
        refine lv_bipush (v := 6) hx hb dX10_tellsIn_63 (by decide) ?_
        refine lv_icmp_ne (tgt := 93) hx hb dX10_tellsIn_65 (by decide) (fun c_3 => ?_) (fun c_3 => ?_)
        · have hw := hw.1 c_3
          refine lv_aload_n hx hb dX10_tellsIn_93 rfl (lv_at hl 0 rfl) ?_
          refine lv_iload_n hx hb dX10_tellsIn_94 rfl (lv_at hl 1 rfl) ?_
          refine mw_Sx (As := [.int a1]) (rest := [.ref (G.1 + h)]) (n := 1) ⟨hx, hb, hml, hown, hts⟩ (so_X10_above l G a1 M _ hw) wm_RX10_100 wt_yX10_above wn_RX10 wc_yX10_above (by decide) (by constructor <;> (simp only [rgE]; omega)) ⟨rfl, rfl⟩ hSt hTb hP hS rfl hl.1 rfl (Nat.le_of_ble_eq_true rfl) dX10_tellsIn_95 ⟨Nat.le_refl 0, Nat.le_refl 0⟩ (fun rr_ M_4 H locs hq hP hS => ?_)
          obtain ⟨r_5, rfl, hw⟩ := hq
          refine lv_iload_n hx hb dX10_tellsIn_98 rfl (lv_at hl 2 rfl) ?_
          refine mw_V (As := [.int r_5, .int a2]) (rest := []) (T := TX10) (N := 25) (n := 2) ⟨hx, hb, hml, hown, hts⟩ (ih h r_5 a2 M_4 _ hw) wm_RX10_241 wi_yX10_tellsIn wv_yX10_tellsIn wn_RX10 wc_yX10_tellsIn (by decide) (by constructor <;> (simp only [rgE]; omega)) ⟨rfl, rfl⟩ kh (by decide) (mk10 kh) rfl hSt hTb hP hS rfl hl.1 rfl (Nat.le_of_ble_eq_true rfl) dX10_tellsIn_99 ⟨Nat.le_refl 0, Nat.le_refl 0⟩ (fun rr_ M_6 H locs hq hP hS => ?_)
          obtain ⟨r_7, rfl, hw⟩ := hq
          exact W.iret hx hb hr (mw_end hP hSt hTb hS ⟨_, rfl, hw⟩) hS.2.2 dX10_tellsIn_102
        · have hw := hw.2 c_3
          refine lv_aload_n hx hb dX10_tellsIn_68 rfl (lv_at hl 0 rfl) ?_
          refine lv_bipush (v := 71) hx hb dX10_tellsIn_69 (by decide) ?_
          refine mw_V (As := [.int 71]) (rest := []) (T := TX10) (N := 25) (n := 1) ⟨hx, hb, hml, hown, hts⟩ (so_X10_ran l G h 71 M _ hw) wm_RX10_220 wi_yX10_ran wv_yX10_ran wn_RX10 wc_yX10_ran (by decide) (by constructor <;> (simp only [rgE]; omega)) ⟨rfl, rfl⟩ kh (by decide) (mk10 kh) rfl hSt hTb hP hS rfl hl.1 rfl (Nat.le_of_ble_eq_true rfl) dX10_tellsIn_71 ⟨Nat.le_refl 0, Nat.le_refl 0⟩ (fun rr_ M_8 H locs hq hP hS => ?_)
          obtain ⟨rfl, hw⟩ := hq
          refine lv_aload_n hx hb dX10_tellsIn_74 rfl (lv_at hl 0 rfl) ?_
          refine lv_aload_n hx hb dX10_tellsIn_75 rfl (lv_at hl 0 rfl) ?_
          refine mw_get (ci := 10) (v := .int (M_8 h 22)) (C := RX10) (T := TX10) (N := 25) hx hb ht inX10 hown hSt hP kh (by decide) (mk10 kh) rfl 22 (by decide) (ht _ wf_RX10_235) rfl rfl dX10_tellsIn_76 ?_
          refine lv_iload_n hx hb dX10_tellsIn_79 rfl (lv_at hl 2 rfl) ?_
          refine mw_V (As := [.int (M_8 h 22), .int a2]) (rest := []) (T := TX10) (N := 25) (n := 2) ⟨hx, hb, hml, hown, hts⟩ (so_X10_waitsIn l G h (M_8 h 22) a2 M_8 _ hw) wm_RX10_238 wi_yX10_waitsIn wv_yX10_waitsIn wn_RX10 wc_yX10_waitsIn (by decide) (by constructor <;> (simp only [rgE, rgW]; omega)) ⟨rfl, rfl⟩ kh (by decide) (mk10 kh) rfl hSt hTb hP hS rfl hl.1 rfl (Nat.le_of_ble_eq_true rfl) dX10_tellsIn_80 ⟨Nat.le_refl 0, Nat.le_refl 0⟩ (fun rr_ M_9 H locs hq hP hS => ?_)
          obtain ⟨r_10, rfl, hw⟩ := hq
          refine lv_istore_n (lv' := [(3, .int r_10), (0, .ref (G.1 + h)), (1, .int a1), (2, .int a2)]) hx hb dX10_tellsIn_83 rfl hl (by decide) rfl (fun ls hl => ?_)
          refine lv_iload_n hx hb dX10_tellsIn_84 rfl (lv_at hl 0 rfl) ?_
          refine lv_aload_n hx hb dX10_tellsIn_85 rfl (lv_at hl 1 rfl) ?_
          refine lv_iconst (v := 3) hx hb dX10_tellsIn_86 (by decide) ?_
          refine lv_iload_n hx hb dX10_tellsIn_87 rfl (lv_at hl 3 rfl) ?_
          refine mw_V (As := [.int 3, .int a2]) (rest := [.int r_10]) (T := TX10) (N := 25) (n := 2) ⟨hx, hb, hml, hown, hts⟩ (ih h 3 a2 M_9 _ hw) wm_RX10_241 wi_yX10_tellsIn wv_yX10_tellsIn wn_RX10 wc_yX10_tellsIn (by decide) (by constructor <;> (simp only [rgE]; omega)) ⟨rfl, rfl⟩ kh (by decide) (mk10 kh) rfl hSt hTb hP hS rfl hl.1 rfl (Nat.le_of_ble_eq_true rfl) dX10_tellsIn_88 ⟨Nat.le_refl 0, Nat.le_refl 0⟩ (fun rr_ M_11 H locs hq hP hS => ?_)
          obtain ⟨r_12, rfl, hw⟩ := hq
          refine lv_isub hx hb dX10_tellsIn_91 ?_
          exact W.iret hx hb hr (mw_end hP hSt hTb hS ⟨_, rfl, hw⟩) hS.2.2 dX10_tellsIn_92
      · have hw := hw.2 c_2
        refine lv_aload_n hx hb dX10_tellsIn_37 rfl (lv_at hl 0 rfl) ?_
        refine lv_bipush (v := 50) hx hb dX10_tellsIn_38 (by decide) ?_
        refine mw_V (As := [.int 50]) (rest := []) (T := TX10) (N := 25) (n := 1) ⟨hx, hb, hml, hown, hts⟩ (so_X10_ran l G h 50 M _ hw) wm_RX10_220 wi_yX10_ran wv_yX10_ran wn_RX10 wc_yX10_ran (by decide) (by constructor <;> (simp only [rgE]; omega)) ⟨rfl, rfl⟩ kh (by decide) (mk10 kh) rfl hSt hTb hP hS rfl hl.1 rfl (Nat.le_of_ble_eq_true rfl) dX10_tellsIn_40 ⟨Nat.le_refl 0, Nat.le_refl 0⟩ (fun rr_ M_13 H locs hq hP hS => ?_)
        obtain ⟨rfl, hw⟩ := hq
        refine lv_aload_n hx hb dX10_tellsIn_43 rfl (lv_at hl 0 rfl) ?_
        refine lv_iconst (v := 1) hx hb dX10_tellsIn_44 (by decide) ?_
        refine lv_iload_n hx hb dX10_tellsIn_45 rfl (lv_at hl 2 rfl) ?_
        refine mw_V (As := [.int 1, .int a2]) (rest := []) (T := TX10) (N := 25) (n := 2) ⟨hx, hb, hml, hown, hts⟩ (ih h 1 a2 M_13 _ hw) wm_RX10_241 wi_yX10_tellsIn wv_yX10_tellsIn wn_RX10 wc_yX10_tellsIn (by decide) (by constructor <;> (simp only [rgE]; omega)) ⟨rfl, rfl⟩ kh (by decide) (mk10 kh) rfl hSt hTb hP hS rfl hl.1 rfl (Nat.le_of_ble_eq_true rfl) dX10_tellsIn_46 ⟨Nat.le_refl 0, Nat.le_refl 0⟩ (fun rr_ M_14 H locs hq hP hS => ?_)
        obtain ⟨r_15, rfl, hw⟩ := hq
        refine lv_istore_n (lv' := [(3, .int r_15), (0, .ref (G.1 + h)), (1, .int a1), (2, .int a2)]) hx hb dX10_tellsIn_49 rfl hl (by decide) rfl (fun ls hl => ?_)
        refine lv_iload_n hx hb dX10_tellsIn_50 rfl (lv_at hl 0 rfl) ?_
        refine lv_aload_n hx hb dX10_tellsIn_51 rfl (lv_at hl 1 rfl) ?_
        refine lv_aload_n hx hb dX10_tellsIn_52 rfl (lv_at hl 1 rfl) ?_
        refine mw_get (ci := 10) (v := .int (M_14 h 22)) (C := RX10) (T := TX10) (N := 25) hx hb ht inX10 hown hSt hP kh (by decide) (mk10 kh) rfl 22 (by decide) (ht _ wf_RX10_235) rfl rfl dX10_tellsIn_53 ?_
        refine lv_iconst (v := 2) hx hb dX10_tellsIn_56 (by decide) ?_
        refine mw_V (As := [.int (M_14 h 22), .int 2]) (rest := [.int r_15]) (T := TX10) (N := 25) (n := 2) ⟨hx, hb, hml, hown, hts⟩ (so_X10_bleatsIn l G h (M_14 h 22) 2 M_14 _ hw) wm_RX10_226 wi_yX10_bleatsIn wv_yX10_bleatsIn wn_RX10 wc_yX10_bleatsIn (by decide) (by constructor <;> (simp only [rgE, rgB]; omega)) ⟨rfl, rfl⟩ kh (by decide) (mk10 kh) rfl hSt hTb hP hS rfl hl.1 rfl (Nat.le_of_ble_eq_true rfl) dX10_tellsIn_57 ⟨Nat.le_refl 0, Nat.le_refl 0⟩ (fun rr_ M_16 H locs hq hP hS => ?_)
        obtain ⟨r_17, rfl, hw⟩ := hq
        refine lv_isub hx hb dX10_tellsIn_60 ?_
        exact W.iret hx hb hr (mw_end hP hSt hTb hS ⟨_, rfl, hw⟩) hS.2.2 dX10_tellsIn_61
    · have hw := hw.2 c_1
      refine lv_aload_n hx hb dX10_tellsIn_4 rfl (lv_at hl 0 rfl) ?_
      refine lv_bipush (v := 13) hx hb dX10_tellsIn_5 (by decide) ?_
      refine mw_V (As := [.int 13]) (rest := []) (T := TX10) (N := 25) (n := 1) ⟨hx, hb, hml, hown, hts⟩ (so_X10_ran l G h 13 M _ hw) wm_RX10_220 wi_yX10_ran wv_yX10_ran wn_RX10 wc_yX10_ran (by decide) (by constructor <;> (simp only [rgE]; omega)) ⟨rfl, rfl⟩ kh (by decide) (mk10 kh) rfl hSt hTb hP hS rfl hl.1 rfl (Nat.le_of_ble_eq_true rfl) dX10_tellsIn_7 ⟨Nat.le_refl 0, Nat.le_refl 0⟩ (fun rr_ M_18 H locs hq hP hS => ?_)
      obtain ⟨rfl, hw⟩ := hq
      refine lv_aload_n hx hb dX10_tellsIn_10 rfl (lv_at hl 0 rfl) ?_
      refine lv_aload_n hx hb dX10_tellsIn_11 rfl (lv_at hl 0 rfl) ?_
      refine mw_get (ci := 10) (v := .int (M_18 h 22)) (C := RX10) (T := TX10) (N := 25) hx hb ht inX10 hown hSt hP kh (by decide) (mk10 kh) rfl 22 (by decide) (ht _ wf_RX10_235) rfl rfl dX10_tellsIn_12 ?_
      refine lv_iload_n hx hb dX10_tellsIn_15 rfl (lv_at hl 2 rfl) ?_
      refine mw_V (As := [.int (M_18 h 22), .int a2]) (rest := []) (T := TX10) (N := 25) (n := 2) ⟨hx, hb, hml, hown, hts⟩ (so_X10_waitsIn l G h (M_18 h 22) a2 M_18 _ hw) wm_RX10_238 wi_yX10_waitsIn wv_yX10_waitsIn wn_RX10 wc_yX10_waitsIn (by decide) (by constructor <;> (simp only [rgE, rgW]; omega)) ⟨rfl, rfl⟩ kh (by decide) (mk10 kh) rfl hSt hTb hP hS rfl hl.1 rfl (Nat.le_of_ble_eq_true rfl) dX10_tellsIn_16 ⟨Nat.le_refl 0, Nat.le_refl 0⟩ (fun rr_ M_19 H locs hq hP hS => ?_)
      obtain ⟨r_20, rfl, hw⟩ := hq
      refine lv_istore_n (lv' := [(3, .int r_20), (0, .ref (G.1 + h)), (1, .int a1), (2, .int a2)]) hx hb dX10_tellsIn_19 rfl hl (by decide) rfl (fun ls hl => ?_)
      refine lv_iload_n hx hb dX10_tellsIn_20 rfl (lv_at hl 0 rfl) ?_
      refine lv_aload_n hx hb dX10_tellsIn_21 rfl (lv_at hl 1 rfl) ?_
      refine lv_aload_n hx hb dX10_tellsIn_22 rfl (lv_at hl 1 rfl) ?_
      refine mw_get (ci := 10) (v := .int (M_19 h 22)) (C := RX10) (T := TX10) (N := 25) hx hb ht inX10 hown hSt hP kh (by decide) (mk10 kh) rfl 22 (by decide) (ht _ wf_RX10_235) rfl rfl dX10_tellsIn_23 ?_
      refine lv_iload_n hx hb dX10_tellsIn_26 rfl (lv_at hl 3 rfl) ?_
      refine mw_V (As := [.int (M_19 h 22), .int a2]) (rest := [.int r_20]) (T := TX10) (N := 25) (n := 2) ⟨hx, hb, hml, hown, hts⟩ (so_X10_shiversIn l G h (M_19 h 22) a2 M_19 _ hw) wm_RX10_232 wi_yX10_shiversIn wv_yX10_shiversIn wn_RX10 wc_yX10_shiversIn (by decide) (by constructor <;> (simp only [rgE, rgS]; omega)) ⟨rfl, rfl⟩ kh (by decide) (mk10 kh) rfl hSt hTb hP hS rfl hl.1 rfl (Nat.le_of_ble_eq_true rfl) dX10_tellsIn_27 ⟨Nat.le_refl 0, Nat.le_refl 0⟩ (fun rr_ M_21 H locs hq hP hS => ?_)
      obtain ⟨r_22, rfl, hw⟩ := hq
      refine lv_ixor hx hb dX10_tellsIn_30 ?_
      exact W.iret hx hb hr (mw_end hP hSt hTb hS ⟨_, rfl, hw⟩) hS.2.2 dX10_tellsIn_31
theorem so_X10_tellsIn (l : Launch) (G : Gm) (h : Nat) (a1 : Int32) (a2 : Int32) (M : Mem) (Q : Int32 → Mem → Prop) (hw : wp_X10_tellsIn 12 h a1 a2 M Q) : Ct l G yX10_tellsIn cX10_tellsIn 4 (some .int) (rgE 12) [.ref (G.1 + h), .int a1, .int a2] M (Qi Q) := (sg_E l G 12) h a1 a2 M Q hw
def b_X10_voice_17 (h : Nat) (Q : Int32 → Mem → Prop) (M : Mem) : Prop :=
  wp_X10_errs h (-1000000001) M (fun r_2 M_1 => Q r_2 M_1)
def wp_X10_voice (h : Nat) (a1 : Int32) (a2 : Int32) (a3 : Int32) (M : Mem) (Q : Int32 → Mem → Prop) : Prop :=
  kdT h = 10 ∧ (wp_X10_isSheep h a1 M (fun r_4 M_3 => (r_4 = 0 → b_X10_voice_17 h Q M_3) ∧ (¬ r_4 = 0 → wp_X10_in a2 0 3 M_3 (fun r_7 M_6 => (¬ r_7 = 0 → ∀ M_9, M_9 = mu M_6 h 21 0 → wp_X10_its h a1 0 M_9 (fun r_11 M_10 => ∀ M_12, M_12 = mu M_10 h 22 r_11 → ∀ M_13, M_13 = mu M_12 h 23 a1 → wp_X10_its h a1 1 M_13 (fun r_15 M_14 => ∀ M_16, M_16 = mu M_14 h 24 r_15 → (a2 = 0 → wp_X10_bleatsIn 12 h (M_16 h 22) a3 M_16 (fun r_19 M_18 => Q r_19 M_18)) ∧ (a2 = 1 → wp_X10_waitsIn 12 h (M_16 h 22) a3 M_16 (fun r_22 M_21 => Q r_22 M_21)) ∧ (a2 = 2 → wp_X10_shiversIn 12 h (M_16 h 22) a3 M_16 (fun r_25 M_24 => Q r_25 M_24)) ∧ (¬ a2 = 0 → ¬ a2 = 1 → ¬ a2 = 2 → wp_X10_tellsIn 12 h (M_16 h 22) a3 M_16 (fun r_27 M_26 => Q r_27 M_26))))) ∧ (r_7 = 0 → b_X10_voice_17 h Q M_6)))))
set_option maxHeartbeats 4000000 in
set_option maxRecDepth 100000 in
theorem so_X10_voice (l : Launch) (G : Gm) (h : Nat) (a1 : Int32) (a2 : Int32) (a3 : Int32) (M : Mem) (Q : Int32 → Mem → Prop) (hw : wp_X10_voice h a1 a2 a3 M Q) : Ct l G yX10_voice cX10_voice 4 (some .int) ({ frames := 40, cells := 0, slots := 0, locals := 905 } : Room) [.ref (G.1 + h), .int a1, .int a2, .int a3] M (Qi Q) := by
  unfold wp_X10_voice at hw
  obtain ⟨kh, hw⟩ := hw
  refine ct_of (by decide) (Nat.le_of_ble_eq_true rfl) ?_
  intro p e s m below meth c E_ ls H hl hP hS
  obtain ⟨hx, hb, hml, hown, hts, ht, hr, hlocks, hSt, hTb⟩ := E_
  have hl : lv_has ls 4 [(0, .ref (G.1 + h)), (1, .int a1), (2, .int a2), (3, .int a3)] := hl
  have J_17 : ∀  (M : Mem) (H : Heap) (locs : List Loc) (ls : Array Slot), b_X10_voice_17 h Q M → va_P G.2.1 clsA (wl G M) H → va_S (inW G) s.heap H locs → lv_has ls 4 [(0, .ref (G.1 + h))] → W p l e ({ frames := 40, cells := 0, slots := 0, locals := 905 } : Room) s m ([.ref (G.1 + h), .int a1, .int a2, .int a3] : List Value).toArray below meth c H locs 0 0 (MQ below (Pq G (Qi Q)) ([.ref (G.1 + h), .int a1, .int a2, .int a3] : List Value).toArray s 0 0 (inW G)) (F0 m 17 ls []) := by
    intro  M H locs ls  hw hP hS hl
    unfold b_X10_voice_17 at hw
    refine lv_aload_n hx hb dX10_voice_17 rfl (lv_at hl 0 rfl) ?_
    refine lv_ldc (v := (-1000000001)) hx hb hown (ht _ wk_RX10_62) dX10_voice_18 ?_
    refine mw_V (As := [.int (-1000000001)]) (rest := []) (T := TX10) (N := 25) (n := 1) ⟨hx, hb, hml, hown, hts⟩ (so_X10_errs l G h (-1000000001) M _ hw) wm_RX10_63 wi_yX10_errs wv_yX10_errs wn_RX10 wc_yX10_errs (by decide) ⟨Nat.le_of_ble_eq_true rfl, Nat.le_of_ble_eq_true rfl⟩ ⟨rfl, rfl⟩ kh (by decide) (mk10 kh) rfl hSt hTb hP hS rfl hl.1 rfl (Nat.le_of_ble_eq_true rfl) dX10_voice_20 ⟨Nat.le_refl 0, Nat.le_refl 0⟩ (fun rr_ M_1 H locs hq hP hS => ?_)
    obtain ⟨r_2, rfl, hw⟩ := hq
    exact W.iret hx hb hr (mw_end hP hSt hTb hS ⟨_, rfl, hw⟩) hS.2.2 dX10_voice_23
  refine lv_aload_n hx hb dX10_voice_0 rfl (lv_at hl 0 rfl) ?_
  refine lv_iload_n hx hb dX10_voice_1 rfl (lv_at hl 1 rfl) ?_
  refine mw_V (As := [.int a1]) (rest := []) (T := TX10) (N := 25) (n := 1) ⟨hx, hb, hml, hown, hts⟩ (so_X10_isSheep l G h a1 M _ hw) wm_RX10_91 wi_yX10_isSheep wv_yX10_isSheep wn_RX10 wc_yX10_isSheep (by decide) ⟨Nat.le_of_ble_eq_true rfl, Nat.le_of_ble_eq_true rfl⟩ ⟨rfl, rfl⟩ kh (by decide) (mk10 kh) rfl hSt hTb hP hS rfl hl.1 rfl (Nat.le_of_ble_eq_true rfl) dX10_voice_2 ⟨Nat.le_refl 0, Nat.le_refl 0⟩ (fun rr_ M_3 H locs hq hP hS => ?_)
  obtain ⟨r_4, rfl, hw⟩ := hq
  refine lv_if_eq (tgt := 17) hx hb dX10_voice_5 (by decide) (fun c_5 => ?_) (fun c_5 => ?_)
  · have hw := hw.1 c_5
    exact J_17 M_3 _ _ _ hw hP hS (lv_sub hl [0] rfl)
  · have hw := hw.2 c_5
    refine lv_iload_n hx hb dX10_voice_8 rfl (lv_at hl 2 rfl) ?_
    refine lv_iconst (v := 0) hx hb dX10_voice_9 (by decide) ?_
    refine lv_iconst (v := 3) hx hb dX10_voice_10 (by decide) ?_
    refine mw_Sx (As := [.int a2, .int 0, .int 3]) (rest := []) (n := 3) ⟨hx, hb, hml, hown, hts⟩ (so_X10_in l G a2 0 3 M_3 _ hw) wm_RX10_50 wt_yX10_in wn_RX10 wc_yX10_in (by decide) ⟨Nat.le_of_ble_eq_true rfl, Nat.le_of_ble_eq_true rfl⟩ ⟨rfl, rfl⟩ hSt hTb hP hS rfl hl.1 rfl (Nat.le_of_ble_eq_true rfl) dX10_voice_11 ⟨Nat.le_refl 0, Nat.le_refl 0⟩ (fun rr_ M_6 H locs hq hP hS => ?_)
    obtain ⟨r_7, rfl, hw⟩ := hq
    refine lv_if_ne (tgt := 24) hx hb dX10_voice_14 (by decide) (fun c_8 => ?_) (fun c_8 => ?_)
    · have hw := hw.1 c_8
      refine lv_aload_n hx hb dX10_voice_24 rfl (lv_at hl 0 rfl) ?_
      refine lv_iconst (v := 0) hx hb dX10_voice_25 (by decide) ?_
      refine mw_put (ci := 10) (v := 0) (ty := .int) (C := RX10) (T := TX10) (N := 25) hx hb ht inX10 tyX10 tyX10_ok nmX10 hown hSt hP hS kh (by decide) (mk10 kh) rfl 21 (by decide) (ht _ wf_RX10_217) rfl rfl (by decide +kernel) (vp_nar_int _) rfl (Nat.le_of_ble_eq_true rfl) (by rw [mk10 kh]; simp [mu]) dX10_voice_26 (fun M_9 H locs eM_9 hP hS => ?_)
      have hw := hw M_9 eM_9
      refine lv_aload_n hx hb dX10_voice_29 rfl (lv_at hl 0 rfl) ?_
      refine lv_aload_n hx hb dX10_voice_30 rfl (lv_at hl 0 rfl) ?_
      refine lv_iload_n hx hb dX10_voice_31 rfl (lv_at hl 1 rfl) ?_
      refine lv_iconst (v := 0) hx hb dX10_voice_32 (by decide) ?_
      refine mw_V (As := [.int a1, .int 0]) (rest := [.ref (G.1 + h)]) (T := TX10) (N := 25) (n := 2) ⟨hx, hb, hml, hown, hts⟩ (so_X10_its l G h a1 0 M_9 _ hw) wm_RX10_67 wi_yX10_its wv_yX10_its wn_RX10 wc_yX10_its (by decide) ⟨Nat.le_of_ble_eq_true rfl, Nat.le_of_ble_eq_true rfl⟩ ⟨rfl, rfl⟩ kh (by decide) (mk10 kh) rfl hSt hTb hP hS rfl hl.1 rfl (Nat.le_of_ble_eq_true rfl) dX10_voice_33 ⟨Nat.le_refl 0, Nat.le_refl 0⟩ (fun rr_ M_10 H locs hq hP hS => ?_)
      obtain ⟨r_11, rfl, hw⟩ := hq
      refine mw_put (ci := 10) (v := r_11) (ty := .int) (C := RX10) (T := TX10) (N := 25) hx hb ht inX10 tyX10 tyX10_ok nmX10 hown hSt hP hS kh (by decide) (mk10 kh) rfl 22 (by decide) (ht _ wf_RX10_235) rfl rfl (by decide +kernel) (vp_nar_int _) rfl (Nat.le_of_ble_eq_true rfl) (by rw [mk10 kh]; simp [mu]) dX10_voice_36 (fun M_12 H locs eM_12 hP hS => ?_)
      have hw := hw M_12 eM_12
      refine lv_aload_n hx hb dX10_voice_39 rfl (lv_at hl 0 rfl) ?_
      refine lv_iload_n hx hb dX10_voice_40 rfl (lv_at hl 1 rfl) ?_
      refine mw_put (ci := 10) (v := a1) (ty := .int) (C := RX10) (T := TX10) (N := 25) hx hb ht inX10 tyX10 tyX10_ok nmX10 hown hSt hP hS kh (by decide) (mk10 kh) rfl 23 (by decide) (ht _ wf_RX10_223) rfl rfl (by decide +kernel) (vp_nar_int _) rfl (Nat.le_of_ble_eq_true rfl) (by rw [mk10 kh]; simp [mu]) dX10_voice_41 (fun M_13 H locs eM_13 hP hS => ?_)
      have hw := hw M_13 eM_13
      refine lv_aload_n hx hb dX10_voice_44 rfl (lv_at hl 0 rfl) ?_
      refine lv_aload_n hx hb dX10_voice_45 rfl (lv_at hl 0 rfl) ?_
      refine lv_iload_n hx hb dX10_voice_46 rfl (lv_at hl 1 rfl) ?_
      refine lv_iconst (v := 1) hx hb dX10_voice_47 (by decide) ?_
      refine mw_V (As := [.int a1, .int 1]) (rest := [.ref (G.1 + h)]) (T := TX10) (N := 25) (n := 2) ⟨hx, hb, hml, hown, hts⟩ (so_X10_its l G h a1 1 M_13 _ hw) wm_RX10_67 wi_yX10_its wv_yX10_its wn_RX10 wc_yX10_its (by decide) ⟨Nat.le_of_ble_eq_true rfl, Nat.le_of_ble_eq_true rfl⟩ ⟨rfl, rfl⟩ kh (by decide) (mk10 kh) rfl hSt hTb hP hS rfl hl.1 rfl (Nat.le_of_ble_eq_true rfl) dX10_voice_48 ⟨Nat.le_refl 0, Nat.le_refl 0⟩ (fun rr_ M_14 H locs hq hP hS => ?_)
      obtain ⟨r_15, rfl, hw⟩ := hq
      refine mw_put (ci := 10) (v := r_15) (ty := .int) (C := RX10) (T := TX10) (N := 25) hx hb ht inX10 tyX10 tyX10_ok nmX10 hown hSt hP hS kh (by decide) (mk10 kh) rfl 24 (by decide) (ht _ wf_RX10_229) rfl rfl (by decide +kernel) (vp_nar_int _) rfl (Nat.le_of_ble_eq_true rfl) (by rw [mk10 kh]; simp [mu]) dX10_voice_51 (fun M_16 H locs eM_16 hP hS => ?_)
      have hw := hw M_16 eM_16
      refine lv_iload_n hx hb dX10_voice_54 rfl (lv_at hl 2 rfl) ?_
      by_cases c_17 : a2 = 0
      · have hw := hw.1 c_17
        refine mw_tcase (tgt := 80) (off := 25) hx hb dX10_voice_55 c_17 (by decide) ?_
        refine lv_aload_n hx hb dX10_voice_80 rfl (lv_at hl 0 rfl) ?_
        refine lv_aload_n hx hb dX10_voice_81 rfl (lv_at hl 0 rfl) ?_
        refine mw_get (ci := 10) (v := .int (M_16 h 22)) (C := RX10) (T := TX10) (N := 25) hx hb ht inX10 hown hSt hP kh (by decide) (mk10 kh) rfl 22 (by decide) (ht _ wf_RX10_235) rfl rfl dX10_voice_82 ?_
        refine lv_iload_n hx hb dX10_voice_85 rfl (lv_at hl 3 rfl) ?_
        refine mw_V (As := [.int (M_16 h 22), .int a3]) (rest := []) (T := TX10) (N := 25) (n := 2) ⟨hx, hb, hml, hown, hts⟩ (so_X10_bleatsIn l G h (M_16 h 22) a3 M_16 _ hw) wm_RX10_226 wi_yX10_bleatsIn wv_yX10_bleatsIn wn_RX10 wc_yX10_bleatsIn (by decide) ⟨Nat.le_of_ble_eq_true rfl, Nat.le_of_ble_eq_true rfl⟩ ⟨rfl, rfl⟩ kh (by decide) (mk10 kh) rfl hSt hTb hP hS rfl hl.1 rfl (Nat.le_of_ble_eq_true rfl) dX10_voice_86 ⟨Nat.le_refl 0, Nat.le_refl 0⟩ (fun rr_ M_18 H locs hq hP hS => ?_)
        obtain ⟨r_19, rfl, hw⟩ := hq
        exact W.iret hx hb hr (mw_end hP hSt hTb hS ⟨_, rfl, hw⟩) hS.2.2 dX10_voice_89
      by_cases c_20 : a2 = 1
      · have hw := hw.2.1 c_20
        refine mw_tcase (tgt := 90) (off := 35) hx hb dX10_voice_55 c_20 (by decide) ?_
        refine lv_aload_n hx hb dX10_voice_90 rfl (lv_at hl 0 rfl) ?_
        refine lv_aload_n hx hb dX10_voice_91 rfl (lv_at hl 0 rfl) ?_
        refine mw_get (ci := 10) (v := .int (M_16 h 22)) (C := RX10) (T := TX10) (N := 25) hx hb ht inX10 hown hSt hP kh (by decide) (mk10 kh) rfl 22 (by decide) (ht _ wf_RX10_235) rfl rfl dX10_voice_92 ?_
        refine lv_iload_n hx hb dX10_voice_95 rfl (lv_at hl 3 rfl) ?_
        refine mw_V (As := [.int (M_16 h 22), .int a3]) (rest := []) (T := TX10) (N := 25) (n := 2) ⟨hx, hb, hml, hown, hts⟩ (so_X10_waitsIn l G h (M_16 h 22) a3 M_16 _ hw) wm_RX10_238 wi_yX10_waitsIn wv_yX10_waitsIn wn_RX10 wc_yX10_waitsIn (by decide) ⟨Nat.le_of_ble_eq_true rfl, Nat.le_of_ble_eq_true rfl⟩ ⟨rfl, rfl⟩ kh (by decide) (mk10 kh) rfl hSt hTb hP hS rfl hl.1 rfl (Nat.le_of_ble_eq_true rfl) dX10_voice_96 ⟨Nat.le_refl 0, Nat.le_refl 0⟩ (fun rr_ M_21 H locs hq hP hS => ?_)
        obtain ⟨r_22, rfl, hw⟩ := hq
        exact W.iret hx hb hr (mw_end hP hSt hTb hS ⟨_, rfl, hw⟩) hS.2.2 dX10_voice_99
      by_cases c_23 : a2 = 2
      · have hw := hw.2.2.1 c_23
        refine mw_tcase (tgt := 100) (off := 45) hx hb dX10_voice_55 c_23 (by decide) ?_
        refine lv_aload_n hx hb dX10_voice_100 rfl (lv_at hl 0 rfl) ?_
        refine lv_aload_n hx hb dX10_voice_101 rfl (lv_at hl 0 rfl) ?_
        refine mw_get (ci := 10) (v := .int (M_16 h 22)) (C := RX10) (T := TX10) (N := 25) hx hb ht inX10 hown hSt hP kh (by decide) (mk10 kh) rfl 22 (by decide) (ht _ wf_RX10_235) rfl rfl dX10_voice_102 ?_
        refine lv_iload_n hx hb dX10_voice_105 rfl (lv_at hl 3 rfl) ?_
        refine mw_V (As := [.int (M_16 h 22), .int a3]) (rest := []) (T := TX10) (N := 25) (n := 2) ⟨hx, hb, hml, hown, hts⟩ (so_X10_shiversIn l G h (M_16 h 22) a3 M_16 _ hw) wm_RX10_232 wi_yX10_shiversIn wv_yX10_shiversIn wn_RX10 wc_yX10_shiversIn (by decide) ⟨Nat.le_of_ble_eq_true rfl, Nat.le_of_ble_eq_true rfl⟩ ⟨rfl, rfl⟩ kh (by decide) (mk10 kh) rfl hSt hTb hP hS rfl hl.1 rfl (Nat.le_of_ble_eq_true rfl) dX10_voice_106 ⟨Nat.le_refl 0, Nat.le_refl 0⟩ (fun rr_ M_24 H locs hq hP hS => ?_)
        obtain ⟨r_25, rfl, hw⟩ := hq
        exact W.iret hx hb hr (mw_end hP hSt hTb hS ⟨_, rfl, hw⟩) hS.2.2 dX10_voice_109
      have hw := hw.2.2.2 c_17 c_20 c_23
      refine mw_tdef (keys := [0, 1, 2]) (tgt := 110) hx hb dX10_voice_55 (List.forall_mem_cons.mpr ⟨c_17, (List.forall_mem_cons.mpr ⟨c_20, (List.forall_mem_cons.mpr ⟨c_23, (fun _ h_ => absurd h_ List.not_mem_nil)⟩)⟩)⟩) (by decide) (by decide) ?_
      refine lv_aload_n hx hb dX10_voice_110 rfl (lv_at hl 0 rfl) ?_
      refine lv_aload_n hx hb dX10_voice_111 rfl (lv_at hl 0 rfl) ?_
      refine mw_get (ci := 10) (v := .int (M_16 h 22)) (C := RX10) (T := TX10) (N := 25) hx hb ht inX10 hown hSt hP kh (by decide) (mk10 kh) rfl 22 (by decide) (ht _ wf_RX10_235) rfl rfl dX10_voice_112 ?_
      refine lv_iload_n hx hb dX10_voice_115 rfl (lv_at hl 3 rfl) ?_
      refine mw_V (As := [.int (M_16 h 22), .int a3]) (rest := []) (T := TX10) (N := 25) (n := 2) ⟨hx, hb, hml, hown, hts⟩ (so_X10_tellsIn l G h (M_16 h 22) a3 M_16 _ hw) wm_RX10_241 wi_yX10_tellsIn wv_yX10_tellsIn wn_RX10 wc_yX10_tellsIn (by decide) ⟨Nat.le_of_ble_eq_true rfl, Nat.le_of_ble_eq_true rfl⟩ ⟨rfl, rfl⟩ kh (by decide) (mk10 kh) rfl hSt hTb hP hS rfl hl.1 rfl (Nat.le_of_ble_eq_true rfl) dX10_voice_116 ⟨Nat.le_refl 0, Nat.le_refl 0⟩ (fun rr_ M_26 H locs hq hP hS => ?_)
      obtain ⟨r_27, rfl, hw⟩ := hq
      exact W.iret hx hb hr (mw_end hP hSt hTb hS ⟨_, rfl, hw⟩) hS.2.2 dX10_voice_119
    · have hw := hw.2 c_8
      exact J_17 M_6 _ _ _ hw hP hS (lv_sub hl [0] rfl)
def wp_X10_trace (h : Nat) (a1 : Int32) (M : Mem) (Q : Int32 → Mem → Prop) : Prop :=
  kdT h = 10 ∧ (wp_X10_in a1 0 ((M h 21) - 1) M (fun r_2 M_1 => (r_2 = 0 → wp_X10_errs h (-1000000002) M_1 (fun r_5 M_4 => Q r_5 M_4)) ∧ (¬ r_2 = 0 → vp_in a1 40 ∧ (Q (M_1 (h + 13) a1.toNatClampNeg) M_1))))
set_option maxHeartbeats 4000000 in
set_option maxRecDepth 100000 in
theorem so_X10_trace (l : Launch) (G : Gm) (h : Nat) (a1 : Int32) (M : Mem) (Q : Int32 → Mem → Prop) (hw : wp_X10_trace h a1 M Q) : Ct l G yX10_trace cX10_trace 2 (some .int) ({ frames := 1, cells := 0, slots := 0, locals := 22 } : Room) [.ref (G.1 + h), .int a1] M (Qi Q) := by
  unfold wp_X10_trace at hw
  obtain ⟨kh, hw⟩ := hw
  refine ct_of (by decide) (Nat.le_of_ble_eq_true rfl) ?_
  intro p e s m below meth c E_ ls H hl hP hS
  obtain ⟨hx, hb, hml, hown, hts, ht, hr, hlocks, hSt, hTb⟩ := E_
  have hl : lv_has ls 2 [(0, .ref (G.1 + h)), (1, .int a1)] := hl
  refine lv_iload_n hx hb dX10_trace_0 rfl (lv_at hl 1 rfl) ?_
  refine lv_iconst (v := 0) hx hb dX10_trace_1 (by decide) ?_
  refine lv_aload_n hx hb dX10_trace_2 rfl (lv_at hl 0 rfl) ?_
  refine mw_get (ci := 10) (v := .int (M h 21)) (C := RX10) (T := TX10) (N := 25) hx hb ht inX10 hown hSt hP kh (by decide) (mk10 kh) rfl 21 (by decide) (ht _ wf_RX10_217) rfl rfl dX10_trace_3 ?_
  refine lv_iconst (v := 1) hx hb dX10_trace_6 (by decide) ?_
  refine lv_isub hx hb dX10_trace_7 ?_
  refine mw_Sx (As := [.int a1, .int 0, .int ((M h 21) - 1)]) (rest := []) (n := 3) ⟨hx, hb, hml, hown, hts⟩ (so_X10_in l G a1 0 ((M h 21) - 1) M _ hw) wm_RX10_50 wt_yX10_in wn_RX10 wc_yX10_in (by decide) ⟨Nat.le_of_ble_eq_true rfl, Nat.le_of_ble_eq_true rfl⟩ ⟨rfl, rfl⟩ hSt hTb hP hS rfl hl.1 rfl (Nat.le_of_ble_eq_true rfl) dX10_trace_8 ⟨Nat.le_refl 0, Nat.le_refl 0⟩ (fun rr_ M_1 H locs hq hP hS => ?_)
  obtain ⟨r_2, rfl, hw⟩ := hq
  refine lv_if_eq (tgt := 23) hx hb dX10_trace_11 (by decide) (fun c_3 => ?_) (fun c_3 => ?_)
  · have hw := hw.1 c_3
    refine lv_aload_n hx hb dX10_trace_23 rfl (lv_at hl 0 rfl) ?_
    refine lv_ldc (v := (-1000000002)) hx hb hown (ht _ wk_RX10_204) dX10_trace_24 ?_
    refine mw_V (As := [.int (-1000000002)]) (rest := []) (T := TX10) (N := 25) (n := 1) ⟨hx, hb, hml, hown, hts⟩ (so_X10_errs l G h (-1000000002) M_1 _ hw) wm_RX10_63 wi_yX10_errs wv_yX10_errs wn_RX10 wc_yX10_errs (by decide) ⟨Nat.le_of_ble_eq_true rfl, Nat.le_of_ble_eq_true rfl⟩ ⟨rfl, rfl⟩ kh (by decide) (mk10 kh) rfl hSt hTb hP hS rfl hl.1 rfl (Nat.le_of_ble_eq_true rfl) dX10_trace_26 ⟨Nat.le_refl 0, Nat.le_refl 0⟩ (fun rr_ M_4 H locs hq hP hS => ?_)
    obtain ⟨r_5, rfl, hw⟩ := hq
    exact W.iret hx hb hr (mw_end hP hSt hTb hS ⟨_, rfl, hw⟩) hS.2.2 dX10_trace_29
  · have hw := hw.2 c_3
    refine lv_aload_n hx hb dX10_trace_14 rfl (lv_at hl 0 rfl) ?_
    refine mw_get (ci := 10) (v := .ref (G.1 + (h + 13))) (C := RX10) (T := TX10) (N := 25) hx hb ht inX10 hown hSt hP kh (by decide) (mk10 kh) rfl 20 (by decide) (ht _ wf_RX10_46) rfl rfl dX10_trace_15 ?_
    refine lv_iload_n hx hb dX10_trace_18 rfl (lv_at hl 1 rfl) ?_
    obtain ⟨c_6, hw⟩ := hw
    refine mw_iald hx hb hSt hP (ks10_20 kh) (by rw [(ln10_20 kh)]; exact c_6) dX10_trace_19 ?_
    refine lv_goto (tgt := 29) hx hb dX10_trace_20 (by decide) ?_
    exact W.iret hx hb hr (mw_end hP hSt hTb hS ⟨_, rfl, hw⟩) hS.2.2 dX10_trace_29
def B_X10_sheet_93 (h : Nat) (Q : Int32 → Mem → Prop) (v1 : Int32) (K93 : Int32 → Mem → Prop) (v4 : Int32) (M : Mem) : Prop :=
  (40 ≤ v4 → Q 1 M) ∧ (¬ 40 ≤ v4 → vp_in ((40 * v1) + v4) 160 ∧ ∀ M_3, M_3 = mu M (h + 11) ((40 * v1) + v4).toNatClampNeg 0 → ∀ x_4 : Int32, x_4 = v4 + 1 → K93 x_4 M_3)
def l_X10_sheet_93 (h : Nat) (Q : Int32 → Mem → Prop) (v1 : Int32) : Nat → Int32 → Mem → Prop
  | 0 => fun _ _ => False
  | n + 1 => B_X10_sheet_93 h Q v1 (l_X10_sheet_93 h Q v1 n)
def b_X10_sheet_89 (h : Nat) (Q : Int32 → Mem → Prop) (v1 : Int32) (s0 : Nat) (s1 : Int32) (s2 : Int32) (M : Mem) : Prop :=
  vp_in s1 (lnT s0) ∧ ∀ M_6, M_6 = mu M s0 s1.toNatClampNeg s2 → ∃ n, l_X10_sheet_93 h Q v1 n 0 M_6
def b_X10_sheet_68 (h : Nat) (Q : Int32 → Mem → Prop) (v1 : Int32) (v2 : Int32) (v3 : Int32) (M : Mem) : Prop :=
  vp_in v1 4 ∧ ∀ M_8, M_8 = mu M (h + 9) v1.toNatClampNeg v2 → (¬ v2 = 0 → b_X10_sheet_89 h Q v1 (h + 10) v1 v3 M_8) ∧ (v2 = 0 → b_X10_sheet_89 h Q v1 (h + 10) v1 0 M_8)
def b_X10_sheet_51 (h : Nat) (Q : Int32 → Mem → Prop) (v1 : Int32) (v2 : Int32) (v3 : Int32) (M : Mem) : Prop :=
  (v2 = 0 → b_X10_sheet_68 h Q v1 v2 v3 M) ∧ (¬ v2 = 0 → (v3 ≤ 40 → b_X10_sheet_68 h Q v1 v2 v3 M) ∧ (¬ v3 ≤ 40 → wp_X10_errs h (-1000000001) M (fun r_13 M_12 => Q r_13 M_12)))
def b_X10_sheet_36 (h : Nat) (Q : Int32 → Mem → Prop) (v1 : Int32) (v2 : Int32) (v3 : Int32) (M : Mem) : Prop :=
  (v2 = 0 → b_X10_sheet_51 h Q v1 v2 v3 M) ∧ (¬ v2 = 0 → (0 ≤ v3 → b_X10_sheet_51 h Q v1 v2 v3 M) ∧ (¬ 0 ≤ v3 → wp_X10_errs h (-1000000003) M (fun r_17 M_16 => Q r_17 M_16)))
def b_X10_sheet_29 (h : Nat) (Q : Int32 → Mem → Prop) (M : Mem) : Prop :=
  wp_X10_errs h (-1000000001) M (fun r_19 M_18 => Q r_19 M_18)
def wp_X10_sheet (h : Nat) (a1 : Int32) (a2 : Int32) (a3 : Int32) (M : Mem) (Q : Int32 → Mem → Prop) : Prop :=
  kdT h = 10 ∧ (wp_X10_isSheet a1 M (fun r_21 M_20 => (r_21 = 0 → b_X10_sheet_29 h Q M_20) ∧ (¬ r_21 = 0 → (a2 = 0 → b_X10_sheet_36 h Q a1 a2 a3 M_20) ∧ (¬ a2 = 0 → (a2 = 8 → b_X10_sheet_36 h Q a1 a2 a3 M_20) ∧ (¬ a2 = 8 → (a2 = 16 → b_X10_sheet_36 h Q a1 a2 a3 M_20) ∧ (¬ a2 = 16 → (a2 = 32 → b_X10_sheet_36 h Q a1 a2 a3 M_20) ∧ (¬ a2 = 32 → b_X10_sheet_29 h Q M_20)))))))
set_option maxHeartbeats 4000000 in
set_option maxRecDepth 100000 in
theorem so_X10_sheet (l : Launch) (G : Gm) (h : Nat) (a1 : Int32) (a2 : Int32) (a3 : Int32) (M : Mem) (Q : Int32 → Mem → Prop) (hw : wp_X10_sheet h a1 a2 a3 M Q) : Ct l G yX10_sheet cX10_sheet 5 (some .int) ({ frames := 2, cells := 0, slots := 0, locals := 42 } : Room) [.ref (G.1 + h), .int a1, .int a2, .int a3] M (Qi Q) := by
  unfold wp_X10_sheet at hw
  obtain ⟨kh, hw⟩ := hw
  refine ct_of (by decide) (Nat.le_of_ble_eq_true rfl) ?_
  intro p e s m below meth c E_ ls H hl hP hS
  obtain ⟨hx, hb, hml, hown, hts, ht, hr, hlocks, hSt, hTb⟩ := E_
  have hl : lv_has ls 5 [(0, .ref (G.1 + h)), (1, .int a1), (2, .int a2), (3, .int a3)] := hl
  have L_93 : ∀ (v1 : Int32), ∀ (n93 : Nat) (v4 : Int32) (M : Mem) (H : Heap) (locs : List Loc) (ls : Array Slot), l_X10_sheet_93 h Q v1 n93 v4 M → va_P G.2.1 clsA (wl G M) H → va_S (inW G) s.heap H locs → lv_has ls 5 [(0, .ref (G.1 + h)), (1, .int v1), (4, .int v4)] → W p l e ({ frames := 2, cells := 0, slots := 0, locals := 42 } : Room) s m ([.ref (G.1 + h), .int a1, .int a2, .int a3] : List Value).toArray below meth c H locs 0 0 (MQ below (Pq G (Qi Q)) ([.ref (G.1 + h), .int a1, .int a2, .int a3] : List Value).toArray s 0 0 (inW G)) (F0 m 93 ls []) := by
    intro v1  n93
    induction n93 with
    | zero => intro v4 M H locs ls  hw hP hS hl; exact False.elim hw
    | succ n93 ih93 =>
      intro v4 M H locs ls  hw hP hS hl
      have hw : B_X10_sheet_93 h Q v1 (l_X10_sheet_93 h Q v1 n93) v4 M := hw
      unfold B_X10_sheet_93 at hw
      refine lv_iload hx hb dX10_sheet_93 (lv_at hl 2 rfl) ?_
      refine lv_bipush (v := 40) hx hb dX10_sheet_95 (by decide) ?_
      refine lv_icmp_ge (tgt := 119) hx hb dX10_sheet_97 (by decide) (fun c_1 => ?_) (fun c_1 => ?_)
      · have hw := hw.1 c_1
        refine lv_iconst (v := 1) hx hb dX10_sheet_119 (by decide) ?_
        exact W.iret hx hb hr (mw_end hP hSt hTb hS ⟨_, rfl, hw⟩) hS.2.2 dX10_sheet_120
      · have hw := hw.2 c_1
        refine lv_aload_n hx hb dX10_sheet_100 rfl (lv_at hl 0 rfl) ?_
        refine mw_get (ci := 10) (v := .ref (G.1 + (h + 11))) (C := RX10) (T := TX10) (N := 25) hx hb ht inX10 hown hSt hP kh (by decide) (mk10 kh) rfl 18 (by decide) (ht _ wf_RX10_40) rfl rfl dX10_sheet_101 ?_
        refine lv_bipush (v := 40) hx hb dX10_sheet_104 (by decide) ?_
        refine lv_iload_n hx hb dX10_sheet_106 rfl (lv_at hl 1 rfl) ?_
        refine lv_imul hx hb dX10_sheet_107 ?_
        refine lv_iload hx hb dX10_sheet_108 (lv_at hl 2 rfl) ?_
        refine lv_iadd hx hb dX10_sheet_110 ?_
        refine lv_iconst (v := 0) hx hb dX10_sheet_111 (by decide) ?_
        obtain ⟨c_2, hw⟩ := hw
        refine mw_iast hx hb hSt hP hS (ks10_18 kh) (by rw [(ln10_18 kh)]; exact c_2) dX10_sheet_112 (fun M_3 H locs eM_3 hP hS => ?_)
        have hw := hw M_3 eM_3
        obtain ⟨x_4, ex_4⟩ : ∃ z : Int32, z = v4 + 1 := ⟨_, rfl⟩
        have hw := hw x_4 ex_4
        refine lv_iinc (v := x_4) (lv' := [(4, .int x_4), (0, .ref (G.1 + h)), (1, .int v1)]) hx hb dX10_sheet_113 hl (k := 2) rfl (by rw [ex_4]; rfl) (by decide) rfl (fun ls hl => ?_)
        refine lv_goto (tgt := 93) hx hb dX10_sheet_116 (by decide) ?_
        exact ih93 x_4 M_3 _ _ _ hw hP hS (lv_sub hl [1, 2, 0] rfl)
  have J_89 : ∀ (v1 : Int32) (s0 : Nat) (s1 : Int32) (s2 : Int32) (M : Mem) (H : Heap) (locs : List Loc) (ls : Array Slot), kdT s0 = 11 → b_X10_sheet_89 h Q v1 s0 s1 s2 M → va_P G.2.1 clsA (wl G M) H → va_S (inW G) s.heap H locs → lv_has ls 5 [(0, .ref (G.1 + h)), (1, .int v1)] → W p l e ({ frames := 2, cells := 0, slots := 0, locals := 42 } : Room) s m ([.ref (G.1 + h), .int a1, .int a2, .int a3] : List Value).toArray below meth c H locs 0 0 (MQ below (Pq G (Qi Q)) ([.ref (G.1 + h), .int a1, .int a2, .int a3] : List Value).toArray s 0 0 (inW G)) (F0 m 89 ls [.int s2, .int s1, .ref (G.1 + s0)]) := by
    intro v1 s0 s1 s2 M H locs ls ks0 hw hP hS hl
    unfold b_X10_sheet_89 at hw
    obtain ⟨c_5, hw⟩ := hw
    refine mw_iast hx hb hSt hP hS ks0 c_5 dX10_sheet_89 (fun M_6 H locs eM_6 hP hS => ?_)
    have hw := hw M_6 eM_6
    refine lv_iconst (v := 0) hx hb dX10_sheet_90 (by decide) ?_
    refine lv_istore (lv' := [(4, .int 0), (0, .ref (G.1 + h)), (1, .int v1)]) hx hb dX10_sheet_91 hl (by decide) rfl (fun ls hl => ?_)
    obtain ⟨n_, hw⟩ := hw
    exact L_93 v1 n_ 0 M_6 _ _ _ hw hP hS (lv_sub hl [1, 2, 0] rfl)
  have J_68 : ∀ (v1 : Int32) (v2 : Int32) (v3 : Int32) (M : Mem) (H : Heap) (locs : List Loc) (ls : Array Slot), b_X10_sheet_68 h Q v1 v2 v3 M → va_P G.2.1 clsA (wl G M) H → va_S (inW G) s.heap H locs → lv_has ls 5 [(0, .ref (G.1 + h)), (1, .int v1), (2, .int v2), (3, .int v3)] → W p l e ({ frames := 2, cells := 0, slots := 0, locals := 42 } : Room) s m ([.ref (G.1 + h), .int a1, .int a2, .int a3] : List Value).toArray below meth c H locs 0 0 (MQ below (Pq G (Qi Q)) ([.ref (G.1 + h), .int a1, .int a2, .int a3] : List Value).toArray s 0 0 (inW G)) (F0 m 68 ls []) := by
    intro v1 v2 v3 M H locs ls  hw hP hS hl
    unfold b_X10_sheet_68 at hw
    refine lv_aload_n hx hb dX10_sheet_68 rfl (lv_at hl 0 rfl) ?_
    refine mw_get (ci := 10) (v := .ref (G.1 + (h + 9))) (C := RX10) (T := TX10) (N := 25) hx hb ht inX10 hown hSt hP kh (by decide) (mk10 kh) rfl 16 (by decide) (ht _ wf_RX10_34) rfl rfl dX10_sheet_69 ?_
    refine lv_iload_n hx hb dX10_sheet_72 rfl (lv_at hl 1 rfl) ?_
    refine lv_iload_n hx hb dX10_sheet_73 rfl (lv_at hl 2 rfl) ?_
    obtain ⟨c_7, hw⟩ := hw
    refine mw_iast hx hb hSt hP hS (ks10_16 kh) (by rw [(ln10_16 kh)]; exact c_7) dX10_sheet_74 (fun M_8 H locs eM_8 hP hS => ?_)
    have hw := hw M_8 eM_8
    refine lv_aload_n hx hb dX10_sheet_75 rfl (lv_at hl 0 rfl) ?_
    refine mw_get (ci := 10) (v := .ref (G.1 + (h + 10))) (C := RX10) (T := TX10) (N := 25) hx hb ht inX10 hown hSt hP kh (by decide) (mk10 kh) rfl 17 (by decide) (ht _ wf_RX10_37) rfl rfl dX10_sheet_76 ?_
    refine lv_iload_n hx hb dX10_sheet_79 rfl (lv_at hl 1 rfl) ?_
    refine lv_iload_n hx hb dX10_sheet_80 rfl (lv_at hl 2 rfl) ?_
    refine lv_if_ne (tgt := 88) hx hb dX10_sheet_81 (by decide) (fun c_9 => ?_) (fun c_9 => ?_)
    · have hw := hw.1 c_9
      refine lv_iload_n hx hb dX10_sheet_88 rfl (lv_at hl 3 rfl) ?_
      exact J_89 v1 (h + 10) v1 v3 M_8 _ _ _ (ks10_17 kh) hw hP hS (lv_sub hl [0, 1] rfl)
    · have hw := hw.2 c_9
      refine lv_iconst (v := 0) hx hb dX10_sheet_84 (by decide) ?_
      refine lv_goto (tgt := 89) hx hb dX10_sheet_85 (by decide) ?_
      exact J_89 v1 (h + 10) v1 0 M_8 _ _ _ (ks10_17 kh) hw hP hS (lv_sub hl [0, 1] rfl)
  have J_51 : ∀ (v1 : Int32) (v2 : Int32) (v3 : Int32) (M : Mem) (H : Heap) (locs : List Loc) (ls : Array Slot), b_X10_sheet_51 h Q v1 v2 v3 M → va_P G.2.1 clsA (wl G M) H → va_S (inW G) s.heap H locs → lv_has ls 5 [(0, .ref (G.1 + h)), (1, .int v1), (2, .int v2), (3, .int v3)] → W p l e ({ frames := 2, cells := 0, slots := 0, locals := 42 } : Room) s m ([.ref (G.1 + h), .int a1, .int a2, .int a3] : List Value).toArray below meth c H locs 0 0 (MQ below (Pq G (Qi Q)) ([.ref (G.1 + h), .int a1, .int a2, .int a3] : List Value).toArray s 0 0 (inW G)) (F0 m 51 ls []) := by
    intro v1 v2 v3 M H locs ls  hw hP hS hl
    unfold b_X10_sheet_51 at hw
    refine lv_iload_n hx hb dX10_sheet_51 rfl (lv_at hl 2 rfl) ?_
    refine lv_if_eq (tgt := 68) hx hb dX10_sheet_52 (by decide) (fun c_10 => ?_) (fun c_10 => ?_)
    · have hw := hw.1 c_10
      exact J_68 v1 v2 v3 M _ _ _ hw hP hS (lv_sub hl [0, 1, 2, 3] rfl)
    · have hw := hw.2 c_10
      refine lv_iload_n hx hb dX10_sheet_55 rfl (lv_at hl 3 rfl) ?_
      refine lv_bipush (v := 40) hx hb dX10_sheet_56 (by decide) ?_
      refine lv_icmp_le (tgt := 68) hx hb dX10_sheet_58 (by decide) (fun c_11 => ?_) (fun c_11 => ?_)
      · have hw := hw.1 c_11
        exact J_68 v1 v2 v3 M _ _ _ hw hP hS (lv_sub hl [0, 1, 2, 3] rfl)
      · have hw := hw.2 c_11
        refine lv_aload_n hx hb dX10_sheet_61 rfl (lv_at hl 0 rfl) ?_
        refine lv_ldc (v := (-1000000001)) hx hb hown (ht _ wk_RX10_62) dX10_sheet_62 ?_
        refine mw_V (As := [.int (-1000000001)]) (rest := []) (T := TX10) (N := 25) (n := 1) ⟨hx, hb, hml, hown, hts⟩ (so_X10_errs l G h (-1000000001) M _ hw) wm_RX10_63 wi_yX10_errs wv_yX10_errs wn_RX10 wc_yX10_errs (by decide) ⟨Nat.le_of_ble_eq_true rfl, Nat.le_of_ble_eq_true rfl⟩ ⟨rfl, rfl⟩ kh (by decide) (mk10 kh) rfl hSt hTb hP hS rfl hl.1 rfl (Nat.le_of_ble_eq_true rfl) dX10_sheet_64 ⟨Nat.le_refl 0, Nat.le_refl 0⟩ (fun rr_ M_12 H locs hq hP hS => ?_)
        obtain ⟨r_13, rfl, hw⟩ := hq
        exact W.iret hx hb hr (mw_end hP hSt hTb hS ⟨_, rfl, hw⟩) hS.2.2 dX10_sheet_67
  have J_36 : ∀ (v1 : Int32) (v2 : Int32) (v3 : Int32) (M : Mem) (H : Heap) (locs : List Loc) (ls : Array Slot), b_X10_sheet_36 h Q v1 v2 v3 M → va_P G.2.1 clsA (wl G M) H → va_S (inW G) s.heap H locs → lv_has ls 5 [(0, .ref (G.1 + h)), (1, .int v1), (2, .int v2), (3, .int v3)] → W p l e ({ frames := 2, cells := 0, slots := 0, locals := 42 } : Room) s m ([.ref (G.1 + h), .int a1, .int a2, .int a3] : List Value).toArray below meth c H locs 0 0 (MQ below (Pq G (Qi Q)) ([.ref (G.1 + h), .int a1, .int a2, .int a3] : List Value).toArray s 0 0 (inW G)) (F0 m 36 ls []) := by
    intro v1 v2 v3 M H locs ls  hw hP hS hl
    unfold b_X10_sheet_36 at hw
    refine lv_iload_n hx hb dX10_sheet_36 rfl (lv_at hl 2 rfl) ?_
    refine lv_if_eq (tgt := 51) hx hb dX10_sheet_37 (by decide) (fun c_14 => ?_) (fun c_14 => ?_)
    · have hw := hw.1 c_14
      exact J_51 v1 v2 v3 M _ _ _ hw hP hS (lv_sub hl [0, 1, 2, 3] rfl)
    · have hw := hw.2 c_14
      refine lv_iload_n hx hb dX10_sheet_40 rfl (lv_at hl 3 rfl) ?_
      refine lv_if_ge (tgt := 51) hx hb dX10_sheet_41 (by decide) (fun c_15 => ?_) (fun c_15 => ?_)
      · have hw := hw.1 c_15
        exact J_51 v1 v2 v3 M _ _ _ hw hP hS (lv_sub hl [0, 1, 2, 3] rfl)
      · have hw := hw.2 c_15
        refine lv_aload_n hx hb dX10_sheet_44 rfl (lv_at hl 0 rfl) ?_
        refine lv_ldc (v := (-1000000003)) hx hb hown (ht _ wk_RX10_199) dX10_sheet_45 ?_
        refine mw_V (As := [.int (-1000000003)]) (rest := []) (T := TX10) (N := 25) (n := 1) ⟨hx, hb, hml, hown, hts⟩ (so_X10_errs l G h (-1000000003) M _ hw) wm_RX10_63 wi_yX10_errs wv_yX10_errs wn_RX10 wc_yX10_errs (by decide) ⟨Nat.le_of_ble_eq_true rfl, Nat.le_of_ble_eq_true rfl⟩ ⟨rfl, rfl⟩ kh (by decide) (mk10 kh) rfl hSt hTb hP hS rfl hl.1 rfl (Nat.le_of_ble_eq_true rfl) dX10_sheet_47 ⟨Nat.le_refl 0, Nat.le_refl 0⟩ (fun rr_ M_16 H locs hq hP hS => ?_)
        obtain ⟨r_17, rfl, hw⟩ := hq
        exact W.iret hx hb hr (mw_end hP hSt hTb hS ⟨_, rfl, hw⟩) hS.2.2 dX10_sheet_50
  have J_29 : ∀  (M : Mem) (H : Heap) (locs : List Loc) (ls : Array Slot), b_X10_sheet_29 h Q M → va_P G.2.1 clsA (wl G M) H → va_S (inW G) s.heap H locs → lv_has ls 5 [(0, .ref (G.1 + h))] → W p l e ({ frames := 2, cells := 0, slots := 0, locals := 42 } : Room) s m ([.ref (G.1 + h), .int a1, .int a2, .int a3] : List Value).toArray below meth c H locs 0 0 (MQ below (Pq G (Qi Q)) ([.ref (G.1 + h), .int a1, .int a2, .int a3] : List Value).toArray s 0 0 (inW G)) (F0 m 29 ls []) := by
    intro  M H locs ls  hw hP hS hl
    unfold b_X10_sheet_29 at hw
    refine lv_aload_n hx hb dX10_sheet_29 rfl (lv_at hl 0 rfl) ?_
    refine lv_ldc (v := (-1000000001)) hx hb hown (ht _ wk_RX10_62) dX10_sheet_30 ?_
    refine mw_V (As := [.int (-1000000001)]) (rest := []) (T := TX10) (N := 25) (n := 1) ⟨hx, hb, hml, hown, hts⟩ (so_X10_errs l G h (-1000000001) M _ hw) wm_RX10_63 wi_yX10_errs wv_yX10_errs wn_RX10 wc_yX10_errs (by decide) ⟨Nat.le_of_ble_eq_true rfl, Nat.le_of_ble_eq_true rfl⟩ ⟨rfl, rfl⟩ kh (by decide) (mk10 kh) rfl hSt hTb hP hS rfl hl.1 rfl (Nat.le_of_ble_eq_true rfl) dX10_sheet_32 ⟨Nat.le_refl 0, Nat.le_refl 0⟩ (fun rr_ M_18 H locs hq hP hS => ?_)
    obtain ⟨r_19, rfl, hw⟩ := hq
    exact W.iret hx hb hr (mw_end hP hSt hTb hS ⟨_, rfl, hw⟩) hS.2.2 dX10_sheet_35
  refine lv_iload_n hx hb dX10_sheet_0 rfl (lv_at hl 1 rfl) ?_
  refine mw_Sx (As := [.int a1]) (rest := []) (n := 1) ⟨hx, hb, hml, hown, hts⟩ (so_X10_isSheet l G a1 M _ hw) wm_RX10_208 wt_yX10_isSheet wn_RX10 wc_yX10_isSheet (by decide) ⟨Nat.le_of_ble_eq_true rfl, Nat.le_of_ble_eq_true rfl⟩ ⟨rfl, rfl⟩ hSt hTb hP hS rfl hl.1 rfl (Nat.le_of_ble_eq_true rfl) dX10_sheet_1 ⟨Nat.le_refl 0, Nat.le_refl 0⟩ (fun rr_ M_20 H locs hq hP hS => ?_)
  obtain ⟨r_21, rfl, hw⟩ := hq
  refine lv_if_eq (tgt := 29) hx hb dX10_sheet_4 (by decide) (fun c_22 => ?_) (fun c_22 => ?_)
  · have hw := hw.1 c_22
    exact J_29 M_20 _ _ _ hw hP hS (lv_sub hl [0] rfl)
  · have hw := hw.2 c_22
    refine lv_iload_n hx hb dX10_sheet_7 rfl (lv_at hl 2 rfl) ?_
    refine lv_if_eq (tgt := 36) hx hb dX10_sheet_8 (by decide) (fun c_23 => ?_) (fun c_23 => ?_)
    · have hw := hw.1 c_23
      exact J_36 a1 a2 a3 M_20 _ _ _ hw hP hS (lv_sub hl [0, 1, 2, 3] rfl)
    · have hw := hw.2 c_23
      refine lv_iload_n hx hb dX10_sheet_11 rfl (lv_at hl 2 rfl) ?_
      refine lv_bipush (v := 8) hx hb dX10_sheet_12 (by decide) ?_
      refine lv_icmp_eq (tgt := 36) hx hb dX10_sheet_14 (by decide) (fun c_24 => ?_) (fun c_24 => ?_)
      · have hw := hw.1 c_24
        exact J_36 a1 a2 a3 M_20 _ _ _ hw hP hS (lv_sub hl [0, 1, 2, 3] rfl)
      · have hw := hw.2 c_24
        refine lv_iload_n hx hb dX10_sheet_17 rfl (lv_at hl 2 rfl) ?_
        refine lv_bipush (v := 16) hx hb dX10_sheet_18 (by decide) ?_
        refine lv_icmp_eq (tgt := 36) hx hb dX10_sheet_20 (by decide) (fun c_25 => ?_) (fun c_25 => ?_)
        · have hw := hw.1 c_25
          exact J_36 a1 a2 a3 M_20 _ _ _ hw hP hS (lv_sub hl [0, 1, 2, 3] rfl)
        · have hw := hw.2 c_25
          refine lv_iload_n hx hb dX10_sheet_23 rfl (lv_at hl 2 rfl) ?_
          refine lv_bipush (v := 32) hx hb dX10_sheet_24 (by decide) ?_
          refine lv_icmp_eq (tgt := 36) hx hb dX10_sheet_26 (by decide) (fun c_26 => ?_) (fun c_26 => ?_)
          · have hw := hw.1 c_26
            exact J_36 a1 a2 a3 M_20 _ _ _ hw hP hS (lv_sub hl [0, 1, 2, 3] rfl)
          · have hw := hw.2 c_26
            exact J_29 M_20 _ _ _ hw hP hS (lv_sub hl [0] rfl)
def wp_X10_narrow (a0 : Int32) (a1 : Int32) (M : Mem) (Q : Int32 → Mem → Prop) : Prop :=
  (¬ a0 = 8 → (¬ a0 = 16 → Q a1 M) ∧ (a0 = 16 → Q a1.toInt16.toInt32 M)) ∧ (a0 = 8 → Q a1.toInt8.toInt32 M)
set_option maxHeartbeats 4000000 in
set_option maxRecDepth 100000 in
theorem so_X10_narrow (l : Launch) (G : Gm) (a0 : Int32) (a1 : Int32) (M : Mem) (Q : Int32 → Mem → Prop) (hw : wp_X10_narrow a0 a1 M Q) : Ct l G yX10_narrow cX10_narrow 2 (some .int) ({ frames := 0, cells := 0, slots := 0, locals := 0 } : Room) [.int a0, .int a1] M (Qi Q) := by
  unfold wp_X10_narrow at hw
  refine ct_of (by decide) (Nat.le_of_ble_eq_true rfl) ?_
  intro p e s m below meth c E_ ls H hl hP hS
  obtain ⟨hx, hb, hml, hown, hts, ht, hr, hlocks, hSt, hTb⟩ := E_
  have hl : lv_has ls 2 [(0, .int a0), (1, .int a1)] := hl
  refine lv_iload_n hx hb dX10_narrow_0 rfl (lv_at hl 0 rfl) ?_
  refine lv_bipush (v := 8) hx hb dX10_narrow_1 (by decide) ?_
  refine lv_icmp_ne (tgt := 11) hx hb dX10_narrow_3 (by decide) (fun c_1 => ?_) (fun c_1 => ?_)
  · have hw := hw.1 c_1
    refine lv_iload_n hx hb dX10_narrow_11 rfl (lv_at hl 0 rfl) ?_
    refine lv_bipush (v := 16) hx hb dX10_narrow_12 (by decide) ?_
    refine lv_icmp_ne (tgt := 22) hx hb dX10_narrow_14 (by decide) (fun c_2 => ?_) (fun c_2 => ?_)
    · have hw := hw.1 c_2
      refine lv_iload_n hx hb dX10_narrow_22 rfl (lv_at hl 1 rfl) ?_
      exact W.iret hx hb hr (mw_end hP hSt hTb hS ⟨_, rfl, hw⟩) hS.2.2 dX10_narrow_23
    · have hw := hw.2 c_2
      refine lv_iload_n hx hb dX10_narrow_17 rfl (lv_at hl 1 rfl) ?_
      refine lv_i2s (v := a1.toInt16.toInt32) hx hb dX10_narrow_18 rfl ?_
      refine lv_goto (tgt := 23) hx hb dX10_narrow_19 (by decide) ?_
      exact W.iret hx hb hr (mw_end hP hSt hTb hS ⟨_, rfl, hw⟩) hS.2.2 dX10_narrow_23
  · have hw := hw.2 c_1
    refine lv_iload_n hx hb dX10_narrow_6 rfl (lv_at hl 1 rfl) ?_
    refine lv_i2b (v := a1.toInt8.toInt32) hx hb dX10_narrow_7 rfl ?_
    refine lv_goto (tgt := 23) hx hb dX10_narrow_8 (by decide) ?_
    exact W.iret hx hb hr (mw_end hP hSt hTb hS ⟨_, rfl, hw⟩) hS.2.2 dX10_narrow_23
def wp_X10_put (h : Nat) (a1 : Int32) (a2 : Int32) (a3 : Int32) (M : Mem) (Q : Int32 → Mem → Prop) : Prop :=
  kdT h = 10 ∧ (wp_X10_isSheet a1 M (fun r_2 M_1 => (¬ r_2 = 0 → vp_in a1 4 ∧ ((¬ (M_1 (h + 9) a1.toNatClampNeg) = 0 → vp_in a1 4 ∧ (wp_X10_in a2 0 ((M_1 (h + 10) a1.toNatClampNeg) - 1) M_1 (fun r_8 M_7 => (¬ r_8 = 0 → vp_in a1 4 ∧ (wp_X10_narrow (M_7 (h + 9) a1.toNatClampNeg) a3 M_7 (fun r_12 M_11 => vp_in ((40 * a1) + a2) 160 ∧ ∀ M_14, M_14 = mu M_11 (h + 11) ((40 * a1) + a2).toNatClampNeg r_12 → Q 1 M_14))) ∧ (r_8 = 0 → wp_X10_errs h (-1000000001) M_7 (fun r_16 M_15 => Q r_16 M_15))))) ∧ ((M_1 (h + 9) a1.toNatClampNeg) = 0 → wp_X10_errs h (-1000000002) M_1 (fun r_18 M_17 => Q r_18 M_17)))) ∧ (r_2 = 0 → wp_X10_errs h (-1000000001) M_1 (fun r_20 M_19 => Q r_20 M_19))))
set_option maxHeartbeats 4000000 in
set_option maxRecDepth 100000 in
theorem so_X10_put (l : Launch) (G : Gm) (h : Nat) (a1 : Int32) (a2 : Int32) (a3 : Int32) (M : Mem) (Q : Int32 → Mem → Prop) (hw : wp_X10_put h a1 a2 a3 M Q) : Ct l G yX10_put cX10_put 4 (some .int) ({ frames := 2, cells := 0, slots := 0, locals := 42 } : Room) [.ref (G.1 + h), .int a1, .int a2, .int a3] M (Qi Q) := by
  unfold wp_X10_put at hw
  obtain ⟨kh, hw⟩ := hw
  refine ct_of (by decide) (Nat.le_of_ble_eq_true rfl) ?_
  intro p e s m below meth c E_ ls H hl hP hS
  obtain ⟨hx, hb, hml, hown, hts, ht, hr, hlocks, hSt, hTb⟩ := E_
  have hl : lv_has ls 4 [(0, .ref (G.1 + h)), (1, .int a1), (2, .int a2), (3, .int a3)] := hl
  refine lv_iload_n hx hb dX10_put_0 rfl (lv_at hl 1 rfl) ?_
  refine mw_Sx (As := [.int a1]) (rest := []) (n := 1) ⟨hx, hb, hml, hown, hts⟩ (so_X10_isSheet l G a1 M _ hw) wm_RX10_208 wt_yX10_isSheet wn_RX10 wc_yX10_isSheet (by decide) ⟨Nat.le_of_ble_eq_true rfl, Nat.le_of_ble_eq_true rfl⟩ ⟨rfl, rfl⟩ hSt hTb hP hS rfl hl.1 rfl (Nat.le_of_ble_eq_true rfl) dX10_put_1 ⟨Nat.le_refl 0, Nat.le_refl 0⟩ (fun rr_ M_1 H locs hq hP hS => ?_)
  obtain ⟨r_2, rfl, hw⟩ := hq
  refine lv_if_ne (tgt := 14) hx hb dX10_put_4 (by decide) (fun c_3 => ?_) (fun c_3 => ?_)
  · have hw := hw.1 c_3
    refine lv_aload_n hx hb dX10_put_14 rfl (lv_at hl 0 rfl) ?_
    refine mw_get (ci := 10) (v := .ref (G.1 + (h + 9))) (C := RX10) (T := TX10) (N := 25) hx hb ht inX10 hown hSt hP kh (by decide) (mk10 kh) rfl 16 (by decide) (ht _ wf_RX10_34) rfl rfl dX10_put_15 ?_
    refine lv_iload_n hx hb dX10_put_18 rfl (lv_at hl 1 rfl) ?_
    obtain ⟨c_4, hw⟩ := hw
    refine mw_iald hx hb hSt hP (ks10_16 kh) (by rw [(ln10_16 kh)]; exact c_4) dX10_put_19 ?_
    refine lv_if_ne (tgt := 30) hx hb dX10_put_20 (by decide) (fun c_5 => ?_) (fun c_5 => ?_)
    · have hw := hw.1 c_5
      refine lv_iload_n hx hb dX10_put_30 rfl (lv_at hl 2 rfl) ?_
      refine lv_iconst (v := 0) hx hb dX10_put_31 (by decide) ?_
      refine lv_aload_n hx hb dX10_put_32 rfl (lv_at hl 0 rfl) ?_
      refine mw_get (ci := 10) (v := .ref (G.1 + (h + 10))) (C := RX10) (T := TX10) (N := 25) hx hb ht inX10 hown hSt hP kh (by decide) (mk10 kh) rfl 17 (by decide) (ht _ wf_RX10_37) rfl rfl dX10_put_33 ?_
      refine lv_iload_n hx hb dX10_put_36 rfl (lv_at hl 1 rfl) ?_
      obtain ⟨c_6, hw⟩ := hw
      refine mw_iald hx hb hSt hP (ks10_17 kh) (by rw [(ln10_17 kh)]; exact c_6) dX10_put_37 ?_
      refine lv_iconst (v := 1) hx hb dX10_put_38 (by decide) ?_
      refine lv_isub hx hb dX10_put_39 ?_
      refine mw_Sx (As := [.int a2, .int 0, .int ((M_1 (h + 10) a1.toNatClampNeg) - 1)]) (rest := []) (n := 3) ⟨hx, hb, hml, hown, hts⟩ (so_X10_in l G a2 0 ((M_1 (h + 10) a1.toNatClampNeg) - 1) M_1 _ hw) wm_RX10_50 wt_yX10_in wn_RX10 wc_yX10_in (by decide) ⟨Nat.le_of_ble_eq_true rfl, Nat.le_of_ble_eq_true rfl⟩ ⟨rfl, rfl⟩ hSt hTb hP hS rfl hl.1 rfl (Nat.le_of_ble_eq_true rfl) dX10_put_40 ⟨Nat.le_refl 0, Nat.le_refl 0⟩ (fun rr_ M_7 H locs hq hP hS => ?_)
      obtain ⟨r_8, rfl, hw⟩ := hq
      refine lv_if_ne (tgt := 53) hx hb dX10_put_43 (by decide) (fun c_9 => ?_) (fun c_9 => ?_)
      · have hw := hw.1 c_9
        refine lv_aload_n hx hb dX10_put_53 rfl (lv_at hl 0 rfl) ?_
        refine mw_get (ci := 10) (v := .ref (G.1 + (h + 11))) (C := RX10) (T := TX10) (N := 25) hx hb ht inX10 hown hSt hP kh (by decide) (mk10 kh) rfl 18 (by decide) (ht _ wf_RX10_40) rfl rfl dX10_put_54 ?_
        refine lv_bipush (v := 40) hx hb dX10_put_57 (by decide) ?_
        refine lv_iload_n hx hb dX10_put_59 rfl (lv_at hl 1 rfl) ?_
        refine lv_imul hx hb dX10_put_60 ?_
        refine lv_iload_n hx hb dX10_put_61 rfl (lv_at hl 2 rfl) ?_
        refine lv_iadd hx hb dX10_put_62 ?_
        refine lv_aload_n hx hb dX10_put_63 rfl (lv_at hl 0 rfl) ?_
        refine mw_get (ci := 10) (v := .ref (G.1 + (h + 9))) (C := RX10) (T := TX10) (N := 25) hx hb ht inX10 hown hSt hP kh (by decide) (mk10 kh) rfl 16 (by decide) (ht _ wf_RX10_34) rfl rfl dX10_put_64 ?_
        refine lv_iload_n hx hb dX10_put_67 rfl (lv_at hl 1 rfl) ?_
        obtain ⟨c_10, hw⟩ := hw
        refine mw_iald hx hb hSt hP (ks10_16 kh) (by rw [(ln10_16 kh)]; exact c_10) dX10_put_68 ?_
        refine lv_iload_n hx hb dX10_put_69 rfl (lv_at hl 3 rfl) ?_
        refine mw_Sx (As := [.int (M_7 (h + 9) a1.toNatClampNeg), .int a3]) (rest := [.int ((40 * a1) + a2), .ref (G.1 + (h + 11))]) (n := 2) ⟨hx, hb, hml, hown, hts⟩ (so_X10_narrow l G (M_7 (h + 9) a1.toNatClampNeg) a3 M_7 _ hw) wm_RX10_244 wt_yX10_narrow wn_RX10 wc_yX10_narrow (by decide) ⟨Nat.le_of_ble_eq_true rfl, Nat.le_of_ble_eq_true rfl⟩ ⟨rfl, rfl⟩ hSt hTb hP hS rfl hl.1 rfl (Nat.le_of_ble_eq_true rfl) dX10_put_70 ⟨Nat.le_refl 0, Nat.le_refl 0⟩ (fun rr_ M_11 H locs hq hP hS => ?_)
        obtain ⟨r_12, rfl, hw⟩ := hq
        obtain ⟨c_13, hw⟩ := hw
        refine mw_iast hx hb hSt hP hS (ks10_18 kh) (by rw [(ln10_18 kh)]; exact c_13) dX10_put_73 (fun M_14 H locs eM_14 hP hS => ?_)
        have hw := hw M_14 eM_14
        refine lv_iconst (v := 1) hx hb dX10_put_74 (by decide) ?_
        exact W.iret hx hb hr (mw_end hP hSt hTb hS ⟨_, rfl, hw⟩) hS.2.2 dX10_put_75
      · have hw := hw.2 c_9
        refine lv_aload_n hx hb dX10_put_46 rfl (lv_at hl 0 rfl) ?_
        refine lv_ldc (v := (-1000000001)) hx hb hown (ht _ wk_RX10_62) dX10_put_47 ?_
        refine mw_V (As := [.int (-1000000001)]) (rest := []) (T := TX10) (N := 25) (n := 1) ⟨hx, hb, hml, hown, hts⟩ (so_X10_errs l G h (-1000000001) M_7 _ hw) wm_RX10_63 wi_yX10_errs wv_yX10_errs wn_RX10 wc_yX10_errs (by decide) ⟨Nat.le_of_ble_eq_true rfl, Nat.le_of_ble_eq_true rfl⟩ ⟨rfl, rfl⟩ kh (by decide) (mk10 kh) rfl hSt hTb hP hS rfl hl.1 rfl (Nat.le_of_ble_eq_true rfl) dX10_put_49 ⟨Nat.le_refl 0, Nat.le_refl 0⟩ (fun rr_ M_15 H locs hq hP hS => ?_)
        obtain ⟨r_16, rfl, hw⟩ := hq
        exact W.iret hx hb hr (mw_end hP hSt hTb hS ⟨_, rfl, hw⟩) hS.2.2 dX10_put_52
    · have hw := hw.2 c_5
      refine lv_aload_n hx hb dX10_put_23 rfl (lv_at hl 0 rfl) ?_
      refine lv_ldc (v := (-1000000002)) hx hb hown (ht _ wk_RX10_204) dX10_put_24 ?_
      refine mw_V (As := [.int (-1000000002)]) (rest := []) (T := TX10) (N := 25) (n := 1) ⟨hx, hb, hml, hown, hts⟩ (so_X10_errs l G h (-1000000002) M_1 _ hw) wm_RX10_63 wi_yX10_errs wv_yX10_errs wn_RX10 wc_yX10_errs (by decide) ⟨Nat.le_of_ble_eq_true rfl, Nat.le_of_ble_eq_true rfl⟩ ⟨rfl, rfl⟩ kh (by decide) (mk10 kh) rfl hSt hTb hP hS rfl hl.1 rfl (Nat.le_of_ble_eq_true rfl) dX10_put_26 ⟨Nat.le_refl 0, Nat.le_refl 0⟩ (fun rr_ M_17 H locs hq hP hS => ?_)
      obtain ⟨r_18, rfl, hw⟩ := hq
      exact W.iret hx hb hr (mw_end hP hSt hTb hS ⟨_, rfl, hw⟩) hS.2.2 dX10_put_29
  · have hw := hw.2 c_3
    refine lv_aload_n hx hb dX10_put_7 rfl (lv_at hl 0 rfl) ?_
    refine lv_ldc (v := (-1000000001)) hx hb hown (ht _ wk_RX10_62) dX10_put_8 ?_
    refine mw_V (As := [.int (-1000000001)]) (rest := []) (T := TX10) (N := 25) (n := 1) ⟨hx, hb, hml, hown, hts⟩ (so_X10_errs l G h (-1000000001) M_1 _ hw) wm_RX10_63 wi_yX10_errs wv_yX10_errs wn_RX10 wc_yX10_errs (by decide) ⟨Nat.le_of_ble_eq_true rfl, Nat.le_of_ble_eq_true rfl⟩ ⟨rfl, rfl⟩ kh (by decide) (mk10 kh) rfl hSt hTb hP hS rfl hl.1 rfl (Nat.le_of_ble_eq_true rfl) dX10_put_10 ⟨Nat.le_refl 0, Nat.le_refl 0⟩ (fun rr_ M_19 H locs hq hP hS => ?_)
    obtain ⟨r_20, rfl, hw⟩ := hq
    exact W.iret hx hb hr (mw_end hP hSt hTb hS ⟨_, rfl, hw⟩) hS.2.2 dX10_put_13
def B_X10_move_156 (h : Nat) (Q : Int32 → Mem → Prop) (v3 : Int32) (v4 : Int32) (v5 : Int32) (K156 : Int32 → Mem → Prop) (v6 : Int32) (M : Mem) : Prop :=
  (v5 ≤ v6 → Q v5 M) ∧ (¬ v5 ≤ v6 → vp_in v6 40 ∧ (vp_in (((40 * v3) + v4) + v6) 160 ∧ ∀ M_4, M_4 = mu M (h + 11) (((40 * v3) + v4) + v6).toNatClampNeg (M (h + 12) v6.toNatClampNeg) → ∀ x_5 : Int32, x_5 = v6 + 1 → K156 x_5 M_4))
def l_X10_move_156 (h : Nat) (Q : Int32 → Mem → Prop) (v3 : Int32) (v4 : Int32) (v5 : Int32) : Nat → Int32 → Mem → Prop
  | 0 => fun _ _ => False
  | n + 1 => B_X10_move_156 h Q v3 v4 v5 (l_X10_move_156 h Q v3 v4 v5 n)
def B_X10_move_119 (h : Nat) (Q : Int32 → Mem → Prop) (v1 : Int32) (v2 : Int32) (v3 : Int32) (v4 : Int32) (v5 : Int32) (K119 : Int32 → Mem → Prop) (v6 : Int32) (M : Mem) : Prop :=
  (v5 ≤ v6 → ∃ n, l_X10_move_156 h Q v3 v4 v5 n 0 M) ∧ (¬ v5 ≤ v6 → vp_in (((40 * v1) + v2) + v6) 160 ∧ (vp_in v6 40 ∧ ∀ M_9, M_9 = mu M (h + 12) v6.toNatClampNeg (M (h + 11) (((40 * v1) + v2) + v6).toNatClampNeg) → ∀ x_10 : Int32, x_10 = v6 + 1 → K119 x_10 M_9))
def l_X10_move_119 (h : Nat) (Q : Int32 → Mem → Prop) (v1 : Int32) (v2 : Int32) (v3 : Int32) (v4 : Int32) (v5 : Int32) : Nat → Int32 → Mem → Prop
  | 0 => fun _ _ => False
  | n + 1 => B_X10_move_119 h Q v1 v2 v3 v4 v5 (l_X10_move_119 h Q v1 v2 v3 v4 v5 n)
def b_X10_move_109 (h : Nat) (Q : Int32 → Mem → Prop) (M : Mem) : Prop :=
  wp_X10_errs h (-1000000001) M (fun r_12 M_11 => Q r_12 M_11)
def b_X10_move_39 (h : Nat) (Q : Int32 → Mem → Prop) (M : Mem) : Prop :=
  wp_X10_errs h (-1000000002) M (fun r_14 M_13 => Q r_14 M_13)
def b_X10_move_14 (h : Nat) (Q : Int32 → Mem → Prop) (M : Mem) : Prop :=
  wp_X10_errs h (-1000000001) M (fun r_16 M_15 => Q r_16 M_15)
def wp_X10_move (h : Nat) (a1 : Int32) (a2 : Int32) (a3 : Int32) (a4 : Int32) (a5 : Int32) (M : Mem) (Q : Int32 → Mem → Prop) : Prop :=
  kdT h = 10 ∧ (wp_X10_isSheet a1 M (fun r_18 M_17 => (r_18 = 0 → b_X10_move_14 h Q M_17) ∧ (¬ r_18 = 0 → wp_X10_isSheet a3 M_17 (fun r_21 M_20 => (¬ r_21 = 0 → vp_in a1 4 ∧ (((M_20 (h + 9) a1.toNatClampNeg) = 0 → b_X10_move_39 h Q M_20) ∧ (¬ (M_20 (h + 9) a1.toNatClampNeg) = 0 → vp_in a3 4 ∧ ((¬ (M_20 (h + 9) a3.toNatClampNeg) = 0 → vp_in a1 4 ∧ (vp_in a3 4 ∧ (((M_20 (h + 9) a1.toNatClampNeg) = (M_20 (h + 9) a3.toNatClampNeg) → (a5 < 0 → b_X10_move_109 h Q M_20) ∧ (¬ a5 < 0 → (a2 < 0 → b_X10_move_109 h Q M_20) ∧ (¬ a2 < 0 → (a4 < 0 → b_X10_move_109 h Q M_20) ∧ (¬ a4 < 0 → vp_in a1 4 ∧ ((((M_20 (h + 10) a1.toNatClampNeg) - a5) < a2 → b_X10_move_109 h Q M_20) ∧ (¬ ((M_20 (h + 10) a1.toNatClampNeg) - a5) < a2 → vp_in a3 4 ∧ ((a4 ≤ ((M_20 (h + 10) a3.toNatClampNeg) - a5) → ∃ n, l_X10_move_119 h Q a1 a2 a3 a4 a5 n 0 M_20) ∧ (¬ a4 ≤ ((M_20 (h + 10) a3.toNatClampNeg) - a5) → b_X10_move_109 h Q M_20)))))))) ∧ (¬ (M_20 (h + 9) a1.toNatClampNeg) = (M_20 (h + 9) a3.toNatClampNeg) → wp_X10_errs h (-1000000005) M_20 (fun r_38 M_37 => Q r_38 M_37))))) ∧ ((M_20 (h + 9) a3.toNatClampNeg) = 0 → b_X10_move_39 h Q M_20))))) ∧ (r_21 = 0 → b_X10_move_14 h Q M_20)))))
set_option maxHeartbeats 4000000 in
set_option maxRecDepth 100000 in
theorem so_X10_move (l : Launch) (G : Gm) (h : Nat) (a1 : Int32) (a2 : Int32) (a3 : Int32) (a4 : Int32) (a5 : Int32) (M : Mem) (Q : Int32 → Mem → Prop) (hw : wp_X10_move h a1 a2 a3 a4 a5 M Q) : Ct l G yX10_move cX10_move 7 (some .int) ({ frames := 2, cells := 0, slots := 0, locals := 42 } : Room) [.ref (G.1 + h), .int a1, .int a2, .int a3, .int a4, .int a5] M (Qi Q) := by
  unfold wp_X10_move at hw
  obtain ⟨kh, hw⟩ := hw
  refine ct_of (by decide) (Nat.le_of_ble_eq_true rfl) ?_
  intro p e s m below meth c E_ ls H hl hP hS
  obtain ⟨hx, hb, hml, hown, hts, ht, hr, hlocks, hSt, hTb⟩ := E_
  have hl : lv_has ls 7 [(0, .ref (G.1 + h)), (1, .int a1), (2, .int a2), (3, .int a3), (4, .int a4), (5, .int a5)] := hl
  have L_156 : ∀ (v3 : Int32) (v4 : Int32) (v5 : Int32), ∀ (n156 : Nat) (v6 : Int32) (M : Mem) (H : Heap) (locs : List Loc) (ls : Array Slot), l_X10_move_156 h Q v3 v4 v5 n156 v6 M → va_P G.2.1 clsA (wl G M) H → va_S (inW G) s.heap H locs → lv_has ls 7 [(0, .ref (G.1 + h)), (3, .int v3), (4, .int v4), (5, .int v5), (6, .int v6)] → W p l e ({ frames := 2, cells := 0, slots := 0, locals := 42 } : Room) s m ([.ref (G.1 + h), .int a1, .int a2, .int a3, .int a4, .int a5] : List Value).toArray below meth c H locs 0 0 (MQ below (Pq G (Qi Q)) ([.ref (G.1 + h), .int a1, .int a2, .int a3, .int a4, .int a5] : List Value).toArray s 0 0 (inW G)) (F0 m 156 ls []) := by
    intro v3 v4 v5  n156
    induction n156 with
    | zero => intro v6 M H locs ls  hw hP hS hl; exact False.elim hw
    | succ n156 ih156 =>
      intro v6 M H locs ls  hw hP hS hl
      have hw : B_X10_move_156 h Q v3 v4 v5 (l_X10_move_156 h Q v3 v4 v5 n156) v6 M := hw
      unfold B_X10_move_156 at hw
      refine lv_iload hx hb dX10_move_156 (lv_at hl 4 rfl) ?_
      refine lv_iload hx hb dX10_move_158 (lv_at hl 3 rfl) ?_
      refine lv_icmp_ge (tgt := 191) hx hb dX10_move_160 (by decide) (fun c_1 => ?_) (fun c_1 => ?_)
      · have hw := hw.1 c_1
        refine lv_iload hx hb dX10_move_191 (lv_at hl 3 rfl) ?_
        exact W.iret hx hb hr (mw_end hP hSt hTb hS ⟨_, rfl, hw⟩) hS.2.2 dX10_move_193
      · have hw := hw.2 c_1
        refine lv_aload_n hx hb dX10_move_163 rfl (lv_at hl 0 rfl) ?_
        refine mw_get (ci := 10) (v := .ref (G.1 + (h + 11))) (C := RX10) (T := TX10) (N := 25) hx hb ht inX10 hown hSt hP kh (by decide) (mk10 kh) rfl 18 (by decide) (ht _ wf_RX10_40) rfl rfl dX10_move_164 ?_
        refine lv_bipush (v := 40) hx hb dX10_move_167 (by decide) ?_
        refine lv_iload_n hx hb dX10_move_169 rfl (lv_at hl 1 rfl) ?_
        refine lv_imul hx hb dX10_move_170 ?_
        refine lv_iload hx hb dX10_move_171 (lv_at hl 2 rfl) ?_
        refine lv_iadd hx hb dX10_move_173 ?_
        refine lv_iload hx hb dX10_move_174 (lv_at hl 4 rfl) ?_
        refine lv_iadd hx hb dX10_move_176 ?_
        refine lv_aload_n hx hb dX10_move_177 rfl (lv_at hl 0 rfl) ?_
        refine mw_get (ci := 10) (v := .ref (G.1 + (h + 12))) (C := RX10) (T := TX10) (N := 25) hx hb ht inX10 hown hSt hP kh (by decide) (mk10 kh) rfl 19 (by decide) (ht _ wf_RX10_43) rfl rfl dX10_move_178 ?_
        refine lv_iload hx hb dX10_move_181 (lv_at hl 4 rfl) ?_
        obtain ⟨c_2, hw⟩ := hw
        refine mw_iald hx hb hSt hP (ks10_19 kh) (by rw [(ln10_19 kh)]; exact c_2) dX10_move_183 ?_
        obtain ⟨c_3, hw⟩ := hw
        refine mw_iast hx hb hSt hP hS (ks10_18 kh) (by rw [(ln10_18 kh)]; exact c_3) dX10_move_184 (fun M_4 H locs eM_4 hP hS => ?_)
        have hw := hw M_4 eM_4
        obtain ⟨x_5, ex_5⟩ : ∃ z : Int32, z = v6 + 1 := ⟨_, rfl⟩
        have hw := hw x_5 ex_5
        refine lv_iinc (v := x_5) (lv' := [(6, .int x_5), (0, .ref (G.1 + h)), (3, .int v3), (4, .int v4), (5, .int v5)]) hx hb dX10_move_185 hl (k := 4) rfl (by rw [ex_5]; rfl) (by decide) rfl (fun ls hl => ?_)
        refine lv_goto (tgt := 156) hx hb dX10_move_188 (by decide) ?_
        exact ih156 x_5 M_4 _ _ _ hw hP hS (lv_sub hl [1, 2, 3, 4, 0] rfl)
  have L_119 : ∀ (v1 : Int32) (v2 : Int32) (v3 : Int32) (v4 : Int32) (v5 : Int32), ∀ (n119 : Nat) (v6 : Int32) (M : Mem) (H : Heap) (locs : List Loc) (ls : Array Slot), l_X10_move_119 h Q v1 v2 v3 v4 v5 n119 v6 M → va_P G.2.1 clsA (wl G M) H → va_S (inW G) s.heap H locs → lv_has ls 7 [(0, .ref (G.1 + h)), (1, .int v1), (2, .int v2), (3, .int v3), (4, .int v4), (5, .int v5), (6, .int v6)] → W p l e ({ frames := 2, cells := 0, slots := 0, locals := 42 } : Room) s m ([.ref (G.1 + h), .int a1, .int a2, .int a3, .int a4, .int a5] : List Value).toArray below meth c H locs 0 0 (MQ below (Pq G (Qi Q)) ([.ref (G.1 + h), .int a1, .int a2, .int a3, .int a4, .int a5] : List Value).toArray s 0 0 (inW G)) (F0 m 119 ls []) := by
    intro v1 v2 v3 v4 v5  n119
    induction n119 with
    | zero => intro v6 M H locs ls  hw hP hS hl; exact False.elim hw
    | succ n119 ih119 =>
      intro v6 M H locs ls  hw hP hS hl
      have hw : B_X10_move_119 h Q v1 v2 v3 v4 v5 (l_X10_move_119 h Q v1 v2 v3 v4 v5 n119) v6 M := hw
      unfold B_X10_move_119 at hw
      refine lv_iload hx hb dX10_move_119 (lv_at hl 6 rfl) ?_
      refine lv_iload hx hb dX10_move_121 (lv_at hl 5 rfl) ?_
      refine lv_icmp_ge (tgt := 153) hx hb dX10_move_123 (by decide) (fun c_6 => ?_) (fun c_6 => ?_)
      · have hw := hw.1 c_6
        refine lv_iconst (v := 0) hx hb dX10_move_153 (by decide) ?_
        refine lv_istore (lv' := [(6, .int 0), (0, .ref (G.1 + h)), (1, .int v1), (2, .int v2), (3, .int v3), (4, .int v4), (5, .int v5)]) hx hb dX10_move_154 hl (by decide) rfl (fun ls hl => ?_)
        obtain ⟨n_, hw⟩ := hw
        exact L_156 v3 v4 v5 n_ 0 M _ _ _ hw hP hS (lv_sub hl [1, 4, 5, 6, 0] rfl)
      · have hw := hw.2 c_6
        refine lv_aload_n hx hb dX10_move_126 rfl (lv_at hl 0 rfl) ?_
        refine mw_get (ci := 10) (v := .ref (G.1 + (h + 12))) (C := RX10) (T := TX10) (N := 25) hx hb ht inX10 hown hSt hP kh (by decide) (mk10 kh) rfl 19 (by decide) (ht _ wf_RX10_43) rfl rfl dX10_move_127 ?_
        refine lv_iload hx hb dX10_move_130 (lv_at hl 6 rfl) ?_
        refine lv_aload_n hx hb dX10_move_132 rfl (lv_at hl 0 rfl) ?_
        refine mw_get (ci := 10) (v := .ref (G.1 + (h + 11))) (C := RX10) (T := TX10) (N := 25) hx hb ht inX10 hown hSt hP kh (by decide) (mk10 kh) rfl 18 (by decide) (ht _ wf_RX10_40) rfl rfl dX10_move_133 ?_
        refine lv_bipush (v := 40) hx hb dX10_move_136 (by decide) ?_
        refine lv_iload_n hx hb dX10_move_138 rfl (lv_at hl 1 rfl) ?_
        refine lv_imul hx hb dX10_move_139 ?_
        refine lv_iload_n hx hb dX10_move_140 rfl (lv_at hl 2 rfl) ?_
        refine lv_iadd hx hb dX10_move_141 ?_
        refine lv_iload hx hb dX10_move_142 (lv_at hl 6 rfl) ?_
        refine lv_iadd hx hb dX10_move_144 ?_
        obtain ⟨c_7, hw⟩ := hw
        refine mw_iald hx hb hSt hP (ks10_18 kh) (by rw [(ln10_18 kh)]; exact c_7) dX10_move_145 ?_
        obtain ⟨c_8, hw⟩ := hw
        refine mw_iast hx hb hSt hP hS (ks10_19 kh) (by rw [(ln10_19 kh)]; exact c_8) dX10_move_146 (fun M_9 H locs eM_9 hP hS => ?_)
        have hw := hw M_9 eM_9
        obtain ⟨x_10, ex_10⟩ : ∃ z : Int32, z = v6 + 1 := ⟨_, rfl⟩
        have hw := hw x_10 ex_10
        refine lv_iinc (v := x_10) (lv' := [(6, .int x_10), (0, .ref (G.1 + h)), (1, .int v1), (2, .int v2), (3, .int v3), (4, .int v4), (5, .int v5)]) hx hb dX10_move_147 hl (k := 6) rfl (by rw [ex_10]; rfl) (by decide) rfl (fun ls hl => ?_)
        refine lv_goto (tgt := 119) hx hb dX10_move_150 (by decide) ?_
        exact ih119 x_10 M_9 _ _ _ hw hP hS (lv_sub hl [1, 2, 3, 4, 5, 6, 0] rfl)
  have J_109 : ∀  (M : Mem) (H : Heap) (locs : List Loc) (ls : Array Slot), b_X10_move_109 h Q M → va_P G.2.1 clsA (wl G M) H → va_S (inW G) s.heap H locs → lv_has ls 7 [(0, .ref (G.1 + h))] → W p l e ({ frames := 2, cells := 0, slots := 0, locals := 42 } : Room) s m ([.ref (G.1 + h), .int a1, .int a2, .int a3, .int a4, .int a5] : List Value).toArray below meth c H locs 0 0 (MQ below (Pq G (Qi Q)) ([.ref (G.1 + h), .int a1, .int a2, .int a3, .int a4, .int a5] : List Value).toArray s 0 0 (inW G)) (F0 m 109 ls []) := by
    intro  M H locs ls  hw hP hS hl
    unfold b_X10_move_109 at hw
    refine lv_aload_n hx hb dX10_move_109 rfl (lv_at hl 0 rfl) ?_
    refine lv_ldc (v := (-1000000001)) hx hb hown (ht _ wk_RX10_62) dX10_move_110 ?_
    refine mw_V (As := [.int (-1000000001)]) (rest := []) (T := TX10) (N := 25) (n := 1) ⟨hx, hb, hml, hown, hts⟩ (so_X10_errs l G h (-1000000001) M _ hw) wm_RX10_63 wi_yX10_errs wv_yX10_errs wn_RX10 wc_yX10_errs (by decide) ⟨Nat.le_of_ble_eq_true rfl, Nat.le_of_ble_eq_true rfl⟩ ⟨rfl, rfl⟩ kh (by decide) (mk10 kh) rfl hSt hTb hP hS rfl hl.1 rfl (Nat.le_of_ble_eq_true rfl) dX10_move_112 ⟨Nat.le_refl 0, Nat.le_refl 0⟩ (fun rr_ M_11 H locs hq hP hS => ?_)
    obtain ⟨r_12, rfl, hw⟩ := hq
    exact W.iret hx hb hr (mw_end hP hSt hTb hS ⟨_, rfl, hw⟩) hS.2.2 dX10_move_115
  have J_39 : ∀  (M : Mem) (H : Heap) (locs : List Loc) (ls : Array Slot), b_X10_move_39 h Q M → va_P G.2.1 clsA (wl G M) H → va_S (inW G) s.heap H locs → lv_has ls 7 [(0, .ref (G.1 + h))] → W p l e ({ frames := 2, cells := 0, slots := 0, locals := 42 } : Room) s m ([.ref (G.1 + h), .int a1, .int a2, .int a3, .int a4, .int a5] : List Value).toArray below meth c H locs 0 0 (MQ below (Pq G (Qi Q)) ([.ref (G.1 + h), .int a1, .int a2, .int a3, .int a4, .int a5] : List Value).toArray s 0 0 (inW G)) (F0 m 39 ls []) := by
    intro  M H locs ls  hw hP hS hl
    unfold b_X10_move_39 at hw
    refine lv_aload_n hx hb dX10_move_39 rfl (lv_at hl 0 rfl) ?_
    refine lv_ldc (v := (-1000000002)) hx hb hown (ht _ wk_RX10_204) dX10_move_40 ?_
    refine mw_V (As := [.int (-1000000002)]) (rest := []) (T := TX10) (N := 25) (n := 1) ⟨hx, hb, hml, hown, hts⟩ (so_X10_errs l G h (-1000000002) M _ hw) wm_RX10_63 wi_yX10_errs wv_yX10_errs wn_RX10 wc_yX10_errs (by decide) ⟨Nat.le_of_ble_eq_true rfl, Nat.le_of_ble_eq_true rfl⟩ ⟨rfl, rfl⟩ kh (by decide) (mk10 kh) rfl hSt hTb hP hS rfl hl.1 rfl (Nat.le_of_ble_eq_true rfl) dX10_move_42 ⟨Nat.le_refl 0, Nat.le_refl 0⟩ (fun rr_ M_13 H locs hq hP hS => ?_)
    obtain ⟨r_14, rfl, hw⟩ := hq
    exact W.iret hx hb hr (mw_end hP hSt hTb hS ⟨_, rfl, hw⟩) hS.2.2 dX10_move_45
  have J_14 : ∀  (M : Mem) (H : Heap) (locs : List Loc) (ls : Array Slot), b_X10_move_14 h Q M → va_P G.2.1 clsA (wl G M) H → va_S (inW G) s.heap H locs → lv_has ls 7 [(0, .ref (G.1 + h))] → W p l e ({ frames := 2, cells := 0, slots := 0, locals := 42 } : Room) s m ([.ref (G.1 + h), .int a1, .int a2, .int a3, .int a4, .int a5] : List Value).toArray below meth c H locs 0 0 (MQ below (Pq G (Qi Q)) ([.ref (G.1 + h), .int a1, .int a2, .int a3, .int a4, .int a5] : List Value).toArray s 0 0 (inW G)) (F0 m 14 ls []) := by
    intro  M H locs ls  hw hP hS hl
    unfold b_X10_move_14 at hw
    refine lv_aload_n hx hb dX10_move_14 rfl (lv_at hl 0 rfl) ?_
    refine lv_ldc (v := (-1000000001)) hx hb hown (ht _ wk_RX10_62) dX10_move_15 ?_
    refine mw_V (As := [.int (-1000000001)]) (rest := []) (T := TX10) (N := 25) (n := 1) ⟨hx, hb, hml, hown, hts⟩ (so_X10_errs l G h (-1000000001) M _ hw) wm_RX10_63 wi_yX10_errs wv_yX10_errs wn_RX10 wc_yX10_errs (by decide) ⟨Nat.le_of_ble_eq_true rfl, Nat.le_of_ble_eq_true rfl⟩ ⟨rfl, rfl⟩ kh (by decide) (mk10 kh) rfl hSt hTb hP hS rfl hl.1 rfl (Nat.le_of_ble_eq_true rfl) dX10_move_17 ⟨Nat.le_refl 0, Nat.le_refl 0⟩ (fun rr_ M_15 H locs hq hP hS => ?_)
    obtain ⟨r_16, rfl, hw⟩ := hq
    exact W.iret hx hb hr (mw_end hP hSt hTb hS ⟨_, rfl, hw⟩) hS.2.2 dX10_move_20
  refine lv_iload_n hx hb dX10_move_0 rfl (lv_at hl 1 rfl) ?_
  refine mw_Sx (As := [.int a1]) (rest := []) (n := 1) ⟨hx, hb, hml, hown, hts⟩ (so_X10_isSheet l G a1 M _ hw) wm_RX10_208 wt_yX10_isSheet wn_RX10 wc_yX10_isSheet (by decide) ⟨Nat.le_of_ble_eq_true rfl, Nat.le_of_ble_eq_true rfl⟩ ⟨rfl, rfl⟩ hSt hTb hP hS rfl hl.1 rfl (Nat.le_of_ble_eq_true rfl) dX10_move_1 ⟨Nat.le_refl 0, Nat.le_refl 0⟩ (fun rr_ M_17 H locs hq hP hS => ?_)
  obtain ⟨r_18, rfl, hw⟩ := hq
  refine lv_if_eq (tgt := 14) hx hb dX10_move_4 (by decide) (fun c_19 => ?_) (fun c_19 => ?_)
  · have hw := hw.1 c_19
    exact J_14 M_17 _ _ _ hw hP hS (lv_sub hl [0] rfl)
  · have hw := hw.2 c_19
    refine lv_iload_n hx hb dX10_move_7 rfl (lv_at hl 3 rfl) ?_
    refine mw_Sx (As := [.int a3]) (rest := []) (n := 1) ⟨hx, hb, hml, hown, hts⟩ (so_X10_isSheet l G a3 M_17 _ hw) wm_RX10_208 wt_yX10_isSheet wn_RX10 wc_yX10_isSheet (by decide) ⟨Nat.le_of_ble_eq_true rfl, Nat.le_of_ble_eq_true rfl⟩ ⟨rfl, rfl⟩ hSt hTb hP hS rfl hl.1 rfl (Nat.le_of_ble_eq_true rfl) dX10_move_8 ⟨Nat.le_refl 0, Nat.le_refl 0⟩ (fun rr_ M_20 H locs hq hP hS => ?_)
    obtain ⟨r_21, rfl, hw⟩ := hq
    refine lv_if_ne (tgt := 21) hx hb dX10_move_11 (by decide) (fun c_22 => ?_) (fun c_22 => ?_)
    · have hw := hw.1 c_22
      refine lv_aload_n hx hb dX10_move_21 rfl (lv_at hl 0 rfl) ?_
      refine mw_get (ci := 10) (v := .ref (G.1 + (h + 9))) (C := RX10) (T := TX10) (N := 25) hx hb ht inX10 hown hSt hP kh (by decide) (mk10 kh) rfl 16 (by decide) (ht _ wf_RX10_34) rfl rfl dX10_move_22 ?_
      refine lv_iload_n hx hb dX10_move_25 rfl (lv_at hl 1 rfl) ?_
      obtain ⟨c_23, hw⟩ := hw
      refine mw_iald hx hb hSt hP (ks10_16 kh) (by rw [(ln10_16 kh)]; exact c_23) dX10_move_26 ?_
      refine lv_if_eq (tgt := 39) hx hb dX10_move_27 (by decide) (fun c_24 => ?_) (fun c_24 => ?_)
      · have hw := hw.1 c_24
        exact J_39 M_20 _ _ _ hw hP hS (lv_sub hl [0] rfl)
      · have hw := hw.2 c_24
        refine lv_aload_n hx hb dX10_move_30 rfl (lv_at hl 0 rfl) ?_
        refine mw_get (ci := 10) (v := .ref (G.1 + (h + 9))) (C := RX10) (T := TX10) (N := 25) hx hb ht inX10 hown hSt hP kh (by decide) (mk10 kh) rfl 16 (by decide) (ht _ wf_RX10_34) rfl rfl dX10_move_31 ?_
        refine lv_iload_n hx hb dX10_move_34 rfl (lv_at hl 3 rfl) ?_
        obtain ⟨c_25, hw⟩ := hw
        refine mw_iald hx hb hSt hP (ks10_16 kh) (by rw [(ln10_16 kh)]; exact c_25) dX10_move_35 ?_
        refine lv_if_ne (tgt := 46) hx hb dX10_move_36 (by decide) (fun c_26 => ?_) (fun c_26 => ?_)
        · have hw := hw.1 c_26
          refine lv_aload_n hx hb dX10_move_46 rfl (lv_at hl 0 rfl) ?_
          refine mw_get (ci := 10) (v := .ref (G.1 + (h + 9))) (C := RX10) (T := TX10) (N := 25) hx hb ht inX10 hown hSt hP kh (by decide) (mk10 kh) rfl 16 (by decide) (ht _ wf_RX10_34) rfl rfl dX10_move_47 ?_
          refine lv_iload_n hx hb dX10_move_50 rfl (lv_at hl 1 rfl) ?_
          obtain ⟨c_27, hw⟩ := hw
          refine mw_iald hx hb hSt hP (ks10_16 kh) (by rw [(ln10_16 kh)]; exact c_27) dX10_move_51 ?_
          refine lv_aload_n hx hb dX10_move_52 rfl (lv_at hl 0 rfl) ?_
          refine mw_get (ci := 10) (v := .ref (G.1 + (h + 9))) (C := RX10) (T := TX10) (N := 25) hx hb ht inX10 hown hSt hP kh (by decide) (mk10 kh) rfl 16 (by decide) (ht _ wf_RX10_34) rfl rfl dX10_move_53 ?_
          refine lv_iload_n hx hb dX10_move_56 rfl (lv_at hl 3 rfl) ?_
          obtain ⟨c_28, hw⟩ := hw
          refine mw_iald hx hb hSt hP (ks10_16 kh) (by rw [(ln10_16 kh)]; exact c_28) dX10_move_57 ?_
          refine lv_icmp_eq (tgt := 68) hx hb dX10_move_58 (by decide) (fun c_29 => ?_) (fun c_29 => ?_)
          · have hw := hw.1 c_29
            refine lv_iload hx hb dX10_move_68 (lv_at hl 5 rfl) ?_
            refine lv_if_lt (tgt := 109) hx hb dX10_move_70 (by decide) (fun c_30 => ?_) (fun c_30 => ?_)
            · have hw := hw.1 c_30
              exact J_109 M_20 _ _ _ hw hP hS (lv_sub hl [0] rfl)
            · have hw := hw.2 c_30
              refine lv_iload_n hx hb dX10_move_73 rfl (lv_at hl 2 rfl) ?_
              refine lv_if_lt (tgt := 109) hx hb dX10_move_74 (by decide) (fun c_31 => ?_) (fun c_31 => ?_)
              · have hw := hw.1 c_31
                exact J_109 M_20 _ _ _ hw hP hS (lv_sub hl [0] rfl)
              · have hw := hw.2 c_31
                refine lv_iload hx hb dX10_move_77 (lv_at hl 4 rfl) ?_
                refine lv_if_lt (tgt := 109) hx hb dX10_move_79 (by decide) (fun c_32 => ?_) (fun c_32 => ?_)
                · have hw := hw.1 c_32
                  exact J_109 M_20 _ _ _ hw hP hS (lv_sub hl [0] rfl)
                · have hw := hw.2 c_32
                  refine lv_iload_n hx hb dX10_move_82 rfl (lv_at hl 2 rfl) ?_
                  refine lv_aload_n hx hb dX10_move_83 rfl (lv_at hl 0 rfl) ?_
                  refine mw_get (ci := 10) (v := .ref (G.1 + (h + 10))) (C := RX10) (T := TX10) (N := 25) hx hb ht inX10 hown hSt hP kh (by decide) (mk10 kh) rfl 17 (by decide) (ht _ wf_RX10_37) rfl rfl dX10_move_84 ?_
                  refine lv_iload_n hx hb dX10_move_87 rfl (lv_at hl 1 rfl) ?_
                  obtain ⟨c_33, hw⟩ := hw
                  refine mw_iald hx hb hSt hP (ks10_17 kh) (by rw [(ln10_17 kh)]; exact c_33) dX10_move_88 ?_
                  refine lv_iload hx hb dX10_move_89 (lv_at hl 5 rfl) ?_
                  refine lv_isub hx hb dX10_move_91 ?_
                  refine lv_icmp_gt (tgt := 109) hx hb dX10_move_92 (by decide) (fun c_34 => ?_) (fun c_34 => ?_)
                  · have hw := hw.1 c_34
                    exact J_109 M_20 _ _ _ hw hP hS (lv_sub hl [0] rfl)
                  · have hw := hw.2 c_34
                    refine lv_iload hx hb dX10_move_95 (lv_at hl 4 rfl) ?_
                    refine lv_aload_n hx hb dX10_move_97 rfl (lv_at hl 0 rfl) ?_
                    refine mw_get (ci := 10) (v := .ref (G.1 + (h + 10))) (C := RX10) (T := TX10) (N := 25) hx hb ht inX10 hown hSt hP kh (by decide) (mk10 kh) rfl 17 (by decide) (ht _ wf_RX10_37) rfl rfl dX10_move_98 ?_
                    refine lv_iload_n hx hb dX10_move_101 rfl (lv_at hl 3 rfl) ?_
                    obtain ⟨c_35, hw⟩ := hw
                    refine mw_iald hx hb hSt hP (ks10_17 kh) (by rw [(ln10_17 kh)]; exact c_35) dX10_move_102 ?_
                    refine lv_iload hx hb dX10_move_103 (lv_at hl 5 rfl) ?_
                    refine lv_isub hx hb dX10_move_105 ?_
                    refine lv_icmp_le (tgt := 116) hx hb dX10_move_106 (by decide) (fun c_36 => ?_) (fun c_36 => ?_)
                    · have hw := hw.1 c_36
                      refine lv_iconst (v := 0) hx hb dX10_move_116 (by decide) ?_
                      refine lv_istore (lv' := [(6, .int 0), (0, .ref (G.1 + h)), (1, .int a1), (2, .int a2), (3, .int a3), (4, .int a4), (5, .int a5)]) hx hb dX10_move_117 hl (by decide) rfl (fun ls hl => ?_)
                      obtain ⟨n_, hw⟩ := hw
                      exact L_119 a1 a2 a3 a4 a5 n_ 0 M_20 _ _ _ hw hP hS (lv_sub hl [1, 2, 3, 4, 5, 6, 0] rfl)
                    · have hw := hw.2 c_36
                      exact J_109 M_20 _ _ _ hw hP hS (lv_sub hl [0] rfl)
          · have hw := hw.2 c_29
            refine lv_aload_n hx hb dX10_move_61 rfl (lv_at hl 0 rfl) ?_
            refine lv_ldc (v := (-1000000005)) hx hb hown (ht _ wk_RX10_103) dX10_move_62 ?_
            refine mw_V (As := [.int (-1000000005)]) (rest := []) (T := TX10) (N := 25) (n := 1) ⟨hx, hb, hml, hown, hts⟩ (so_X10_errs l G h (-1000000005) M_20 _ hw) wm_RX10_63 wi_yX10_errs wv_yX10_errs wn_RX10 wc_yX10_errs (by decide) ⟨Nat.le_of_ble_eq_true rfl, Nat.le_of_ble_eq_true rfl⟩ ⟨rfl, rfl⟩ kh (by decide) (mk10 kh) rfl hSt hTb hP hS rfl hl.1 rfl (Nat.le_of_ble_eq_true rfl) dX10_move_64 ⟨Nat.le_refl 0, Nat.le_refl 0⟩ (fun rr_ M_37 H locs hq hP hS => ?_)
            obtain ⟨r_38, rfl, hw⟩ := hq
            exact W.iret hx hb hr (mw_end hP hSt hTb hS ⟨_, rfl, hw⟩) hS.2.2 dX10_move_67
        · have hw := hw.2 c_26
          exact J_39 M_20 _ _ _ hw hP hS (lv_sub hl [0] rfl)
    · have hw := hw.2 c_22
      exact J_14 M_20 _ _ _ hw hP hS (lv_sub hl [0] rfl)
def B_X10_snows_32 (h : Nat) (Q : Int32 → Mem → Prop) (v1 : Int32) (K32 : Int32 → Mem → Prop) (v2 : Int32) (M : Mem) : Prop :=
  vp_in v1 4 ∧ (((M (h + 10) v1.toNatClampNeg) ≤ v2 → Q v2 M) ∧ (¬ (M (h + 10) v1.toNatClampNeg) ≤ v2 → wp_X10_isCell v2 M (fun r_4 M_3 => (r_4 = 0 → Q v2 M_3) ∧ (¬ r_4 = 0 → vp_in ((40 * v1) + v2) 160 ∧ (wp_X10_in (M_3 (h + 11) ((40 * v1) + v2).toNatClampNeg) 0 999 M_3 (fun r_8 M_7 => (r_8 = 0 → Q v2 M_7) ∧ (¬ r_8 = 0 → vp_in ((40 * v1) + v2) 160 ∧ (vp_in (8 + v2) 242 ∧ ∀ M_12, M_12 = mu M_7 (h + 1) (8 + v2).toNatClampNeg (M_7 (h + 11) ((40 * v1) + v2).toNatClampNeg) → ∀ x_13 : Int32, x_13 = v2 + 1 → K32 x_13 M_12))))))))
def l_X10_snows_32 (h : Nat) (Q : Int32 → Mem → Prop) (v1 : Int32) : Nat → Int32 → Mem → Prop
  | 0 => fun _ _ => False
  | n + 1 => B_X10_snows_32 h Q v1 (l_X10_snows_32 h Q v1 n)
def wp_X10_snows (h : Nat) (a1 : Int32) (M : Mem) (Q : Int32 → Mem → Prop) : Prop :=
  kdT h = 10 ∧ (wp_X10_isSheet a1 M (fun r_15 M_14 => (¬ r_15 = 0 → vp_in a1 4 ∧ ((¬ (M_14 (h + 9) a1.toNatClampNeg) = 0 → ∃ n, l_X10_snows_32 h Q a1 n 0 M_14) ∧ ((M_14 (h + 9) a1.toNatClampNeg) = 0 → wp_X10_errs h (-1000000002) M_14 (fun r_20 M_19 => Q r_20 M_19)))) ∧ (r_15 = 0 → wp_X10_errs h (-1000000001) M_14 (fun r_22 M_21 => Q r_22 M_21))))
set_option maxHeartbeats 4000000 in
set_option maxRecDepth 100000 in
theorem so_X10_snows (l : Launch) (G : Gm) (h : Nat) (a1 : Int32) (M : Mem) (Q : Int32 → Mem → Prop) (hw : wp_X10_snows h a1 M Q) : Ct l G yX10_snows cX10_snows 3 (some .int) ({ frames := 2, cells := 0, slots := 0, locals := 42 } : Room) [.ref (G.1 + h), .int a1] M (Qi Q) := by
  unfold wp_X10_snows at hw
  obtain ⟨kh, hw⟩ := hw
  refine ct_of (by decide) (Nat.le_of_ble_eq_true rfl) ?_
  intro p e s m below meth c E_ ls H hl hP hS
  obtain ⟨hx, hb, hml, hown, hts, ht, hr, hlocks, hSt, hTb⟩ := E_
  have hl : lv_has ls 3 [(0, .ref (G.1 + h)), (1, .int a1)] := hl
  have L_32 : ∀ (v1 : Int32), ∀ (n32 : Nat) (v2 : Int32) (M : Mem) (H : Heap) (locs : List Loc) (ls : Array Slot), l_X10_snows_32 h Q v1 n32 v2 M → va_P G.2.1 clsA (wl G M) H → va_S (inW G) s.heap H locs → lv_has ls 3 [(0, .ref (G.1 + h)), (1, .int v1), (2, .int v2)] → W p l e ({ frames := 2, cells := 0, slots := 0, locals := 42 } : Room) s m ([.ref (G.1 + h), .int a1] : List Value).toArray below meth c H locs 0 0 (MQ below (Pq G (Qi Q)) ([.ref (G.1 + h), .int a1] : List Value).toArray s 0 0 (inW G)) (F0 m 32 ls []) := by
    intro v1  n32
    induction n32 with
    | zero => intro v2 M H locs ls  hw hP hS hl; exact False.elim hw
    | succ n32 ih32 =>
      intro v2 M H locs ls  hw hP hS hl
      have hw : B_X10_snows_32 h Q v1 (l_X10_snows_32 h Q v1 n32) v2 M := hw
      unfold B_X10_snows_32 at hw
      refine lv_iload_n hx hb dX10_snows_32 rfl (lv_at hl 2 rfl) ?_
      refine lv_aload_n hx hb dX10_snows_33 rfl (lv_at hl 0 rfl) ?_
      refine mw_get (ci := 10) (v := .ref (G.1 + (h + 10))) (C := RX10) (T := TX10) (N := 25) hx hb ht inX10 hown hSt hP kh (by decide) (mk10 kh) rfl 17 (by decide) (ht _ wf_RX10_37) rfl rfl dX10_snows_34 ?_
      refine lv_iload_n hx hb dX10_snows_37 rfl (lv_at hl 1 rfl) ?_
      obtain ⟨c_1, hw⟩ := hw
      refine mw_iald hx hb hSt hP (ks10_17 kh) (by rw [(ln10_17 kh)]; exact c_1) dX10_snows_38 ?_
      refine lv_icmp_ge (tgt := 96) hx hb dX10_snows_39 (by decide) (fun c_2 => ?_) (fun c_2 => ?_)
      · have hw := hw.1 c_2
        refine lv_iload_n hx hb dX10_snows_96 rfl (lv_at hl 2 rfl) ?_
        exact W.iret hx hb hr (mw_end hP hSt hTb hS ⟨_, rfl, hw⟩) hS.2.2 dX10_snows_97
      · have hw := hw.2 c_2
        refine lv_iload_n hx hb dX10_snows_42 rfl (lv_at hl 2 rfl) ?_
        refine mw_Sx (As := [.int v2]) (rest := []) (n := 1) ⟨hx, hb, hml, hown, hts⟩ (so_X10_isCell l G v2 M _ hw) wm_RX10_54 wt_yX10_isCell wn_RX10 wc_yX10_isCell (by decide) ⟨Nat.le_of_ble_eq_true rfl, Nat.le_of_ble_eq_true rfl⟩ ⟨rfl, rfl⟩ hSt hTb hP hS rfl hl.1 rfl (Nat.le_of_ble_eq_true rfl) dX10_snows_43 ⟨Nat.le_refl 0, Nat.le_refl 0⟩ (fun rr_ M_3 H locs hq hP hS => ?_)
        obtain ⟨r_4, rfl, hw⟩ := hq
        refine lv_if_eq (tgt := 96) hx hb dX10_snows_46 (by decide) (fun c_5 => ?_) (fun c_5 => ?_)
        · have hw := hw.1 c_5
          refine lv_iload_n hx hb dX10_snows_96 rfl (lv_at hl 2 rfl) ?_
          exact W.iret hx hb hr (mw_end hP hSt hTb hS ⟨_, rfl, hw⟩) hS.2.2 dX10_snows_97
        · have hw := hw.2 c_5
          refine lv_aload_n hx hb dX10_snows_49 rfl (lv_at hl 0 rfl) ?_
          refine mw_get (ci := 10) (v := .ref (G.1 + (h + 11))) (C := RX10) (T := TX10) (N := 25) hx hb ht inX10 hown hSt hP kh (by decide) (mk10 kh) rfl 18 (by decide) (ht _ wf_RX10_40) rfl rfl dX10_snows_50 ?_
          refine lv_bipush (v := 40) hx hb dX10_snows_53 (by decide) ?_
          refine lv_iload_n hx hb dX10_snows_55 rfl (lv_at hl 1 rfl) ?_
          refine lv_imul hx hb dX10_snows_56 ?_
          refine lv_iload_n hx hb dX10_snows_57 rfl (lv_at hl 2 rfl) ?_
          refine lv_iadd hx hb dX10_snows_58 ?_
          obtain ⟨c_6, hw⟩ := hw
          refine mw_iald hx hb hSt hP (ks10_18 kh) (by rw [(ln10_18 kh)]; exact c_6) dX10_snows_59 ?_
          refine lv_iconst (v := 0) hx hb dX10_snows_60 (by decide) ?_
          refine lv_sipush (v := 999) hx hb dX10_snows_61 (by decide) ?_
          refine mw_Sx (As := [.int (M_3 (h + 11) ((40 * v1) + v2).toNatClampNeg), .int 0, .int 999]) (rest := []) (n := 3) ⟨hx, hb, hml, hown, hts⟩ (so_X10_in l G (M_3 (h + 11) ((40 * v1) + v2).toNatClampNeg) 0 999 M_3 _ hw) wm_RX10_50 wt_yX10_in wn_RX10 wc_yX10_in (by decide) ⟨Nat.le_of_ble_eq_true rfl, Nat.le_of_ble_eq_true rfl⟩ ⟨rfl, rfl⟩ hSt hTb hP hS rfl hl.1 rfl (Nat.le_of_ble_eq_true rfl) dX10_snows_64 ⟨Nat.le_refl 0, Nat.le_refl 0⟩ (fun rr_ M_7 H locs hq hP hS => ?_)
          obtain ⟨r_8, rfl, hw⟩ := hq
          refine lv_if_eq (tgt := 96) hx hb dX10_snows_67 (by decide) (fun c_9 => ?_) (fun c_9 => ?_)
          · have hw := hw.1 c_9
            refine lv_iload_n hx hb dX10_snows_96 rfl (lv_at hl 2 rfl) ?_
            exact W.iret hx hb hr (mw_end hP hSt hTb hS ⟨_, rfl, hw⟩) hS.2.2 dX10_snows_97
          · have hw := hw.2 c_9
            refine lv_aload_n hx hb dX10_snows_70 rfl (lv_at hl 0 rfl) ?_
            refine mw_get (ci := 10) (v := .ref (G.1 + (h + 1))) (C := RX10) (T := TX10) (N := 25) hx hb ht inX10 hown hSt hP kh (by decide) (mk10 kh) rfl 0 (by decide) (ht _ wf_RX10_7) rfl rfl dX10_snows_71 ?_
            refine lv_bipush (v := 8) hx hb dX10_snows_74 (by decide) ?_
            refine lv_iload_n hx hb dX10_snows_76 rfl (lv_at hl 2 rfl) ?_
            refine lv_iadd hx hb dX10_snows_77 ?_
            refine lv_aload_n hx hb dX10_snows_78 rfl (lv_at hl 0 rfl) ?_
            refine mw_get (ci := 10) (v := .ref (G.1 + (h + 11))) (C := RX10) (T := TX10) (N := 25) hx hb ht inX10 hown hSt hP kh (by decide) (mk10 kh) rfl 18 (by decide) (ht _ wf_RX10_40) rfl rfl dX10_snows_79 ?_
            refine lv_bipush (v := 40) hx hb dX10_snows_82 (by decide) ?_
            refine lv_iload_n hx hb dX10_snows_84 rfl (lv_at hl 1 rfl) ?_
            refine lv_imul hx hb dX10_snows_85 ?_
            refine lv_iload_n hx hb dX10_snows_86 rfl (lv_at hl 2 rfl) ?_
            refine lv_iadd hx hb dX10_snows_87 ?_
            obtain ⟨c_10, hw⟩ := hw
            refine mw_iald hx hb hSt hP (ks10_18 kh) (by rw [(ln10_18 kh)]; exact c_10) dX10_snows_88 ?_
            obtain ⟨c_11, hw⟩ := hw
            refine mw_iast hx hb hSt hP hS (ks10_0 kh) (by rw [(ln10_0 kh)]; exact c_11) dX10_snows_89 (fun M_12 H locs eM_12 hP hS => ?_)
            have hw := hw M_12 eM_12
            obtain ⟨x_13, ex_13⟩ : ∃ z : Int32, z = v2 + 1 := ⟨_, rfl⟩
            have hw := hw x_13 ex_13
            refine lv_iinc (v := x_13) (lv' := [(2, .int x_13), (0, .ref (G.1 + h)), (1, .int v1)]) hx hb dX10_snows_90 hl (k := 2) rfl (by rw [ex_13]; rfl) (by decide) rfl (fun ls hl => ?_)
            refine lv_goto (tgt := 32) hx hb dX10_snows_93 (by decide) ?_
            exact ih32 x_13 M_12 _ _ _ hw hP hS (lv_sub hl [1, 2, 0] rfl)
  refine lv_iload_n hx hb dX10_snows_0 rfl (lv_at hl 1 rfl) ?_
  refine mw_Sx (As := [.int a1]) (rest := []) (n := 1) ⟨hx, hb, hml, hown, hts⟩ (so_X10_isSheet l G a1 M _ hw) wm_RX10_208 wt_yX10_isSheet wn_RX10 wc_yX10_isSheet (by decide) ⟨Nat.le_of_ble_eq_true rfl, Nat.le_of_ble_eq_true rfl⟩ ⟨rfl, rfl⟩ hSt hTb hP hS rfl hl.1 rfl (Nat.le_of_ble_eq_true rfl) dX10_snows_1 ⟨Nat.le_refl 0, Nat.le_refl 0⟩ (fun rr_ M_14 H locs hq hP hS => ?_)
  obtain ⟨r_15, rfl, hw⟩ := hq
  refine lv_if_ne (tgt := 14) hx hb dX10_snows_4 (by decide) (fun c_16 => ?_) (fun c_16 => ?_)
  · have hw := hw.1 c_16
    refine lv_aload_n hx hb dX10_snows_14 rfl (lv_at hl 0 rfl) ?_
    refine mw_get (ci := 10) (v := .ref (G.1 + (h + 9))) (C := RX10) (T := TX10) (N := 25) hx hb ht inX10 hown hSt hP kh (by decide) (mk10 kh) rfl 16 (by decide) (ht _ wf_RX10_34) rfl rfl dX10_snows_15 ?_
    refine lv_iload_n hx hb dX10_snows_18 rfl (lv_at hl 1 rfl) ?_
    obtain ⟨c_17, hw⟩ := hw
    refine mw_iald hx hb hSt hP (ks10_16 kh) (by rw [(ln10_16 kh)]; exact c_17) dX10_snows_19 ?_
    refine lv_if_ne (tgt := 30) hx hb dX10_snows_20 (by decide) (fun c_18 => ?_) (fun c_18 => ?_)
    · have hw := hw.1 c_18
      refine lv_iconst (v := 0) hx hb dX10_snows_30 (by decide) ?_
      refine lv_istore_n (lv' := [(2, .int 0), (0, .ref (G.1 + h)), (1, .int a1)]) hx hb dX10_snows_31 rfl hl (by decide) rfl (fun ls hl => ?_)
      obtain ⟨n_, hw⟩ := hw
      exact L_32 a1 n_ 0 M_14 _ _ _ hw hP hS (lv_sub hl [1, 2, 0] rfl)
    · have hw := hw.2 c_18
      refine lv_aload_n hx hb dX10_snows_23 rfl (lv_at hl 0 rfl) ?_
      refine lv_ldc (v := (-1000000002)) hx hb hown (ht _ wk_RX10_204) dX10_snows_24 ?_
      refine mw_V (As := [.int (-1000000002)]) (rest := []) (T := TX10) (N := 25) (n := 1) ⟨hx, hb, hml, hown, hts⟩ (so_X10_errs l G h (-1000000002) M_14 _ hw) wm_RX10_63 wi_yX10_errs wv_yX10_errs wn_RX10 wc_yX10_errs (by decide) ⟨Nat.le_of_ble_eq_true rfl, Nat.le_of_ble_eq_true rfl⟩ ⟨rfl, rfl⟩ kh (by decide) (mk10 kh) rfl hSt hTb hP hS rfl hl.1 rfl (Nat.le_of_ble_eq_true rfl) dX10_snows_26 ⟨Nat.le_refl 0, Nat.le_refl 0⟩ (fun rr_ M_19 H locs hq hP hS => ?_)
      obtain ⟨r_20, rfl, hw⟩ := hq
      exact W.iret hx hb hr (mw_end hP hSt hTb hS ⟨_, rfl, hw⟩) hS.2.2 dX10_snows_29
  · have hw := hw.2 c_16
    refine lv_aload_n hx hb dX10_snows_7 rfl (lv_at hl 0 rfl) ?_
    refine lv_ldc (v := (-1000000001)) hx hb hown (ht _ wk_RX10_62) dX10_snows_8 ?_
    refine mw_V (As := [.int (-1000000001)]) (rest := []) (T := TX10) (N := 25) (n := 1) ⟨hx, hb, hml, hown, hts⟩ (so_X10_errs l G h (-1000000001) M_14 _ hw) wm_RX10_63 wi_yX10_errs wv_yX10_errs wn_RX10 wc_yX10_errs (by decide) ⟨Nat.le_of_ble_eq_true rfl, Nat.le_of_ble_eq_true rfl⟩ ⟨rfl, rfl⟩ kh (by decide) (mk10 kh) rfl hSt hTb hP hS rfl hl.1 rfl (Nat.le_of_ble_eq_true rfl) dX10_snows_10 ⟨Nat.le_refl 0, Nat.le_refl 0⟩ (fun rr_ M_21 H locs hq hP hS => ?_)
    obtain ⟨r_22, rfl, hw⟩ := hq
    exact W.iret hx hb hr (mw_end hP hSt hTb hS ⟨_, rfl, hw⟩) hS.2.2 dX10_snows_13
def b_X10_judge_78 (h : Nat) (Q : Int32 → Mem → Prop) (v1 : Int32) (v2 : Int32) (M : Mem) : Prop :=
  (¬ v2 = (M (h + 1) 2) → Q v2 M) ∧ (v2 = (M (h + 1) 2) → vp_in v1 4 ∧ ((¬ v2 = (M (h + 10) v1.toNatClampNeg) → Q v2 M) ∧ (v2 = (M (h + 10) v1.toNatClampNeg) → Q (-1) M)))
def B_X10_judge_32 (h : Nat) (Q : Int32 → Mem → Prop) (v1 : Int32) (K32 : Int32 → Mem → Prop) (v2 : Int32) (M : Mem) : Prop :=
  ((M (h + 1) 2) ≤ v2 → b_X10_judge_78 h Q v1 v2 M) ∧ (¬ (M (h + 1) 2) ≤ v2 → vp_in v1 4 ∧ (((M (h + 10) v1.toNatClampNeg) ≤ v2 → b_X10_judge_78 h Q v1 v2 M) ∧ (¬ (M (h + 10) v1.toNatClampNeg) ≤ v2 → vp_in ((40 * v1) + v2) 160 ∧ (wp_X10_its h v2 3 M (fun r_11 M_10 => (¬ (M (h + 11) ((40 * v1) + v2).toNatClampNeg) = r_11 → b_X10_judge_78 h Q v1 v2 M_10) ∧ ((M (h + 11) ((40 * v1) + v2).toNatClampNeg) = r_11 → ∀ x_13 : Int32, x_13 = v2 + 1 → K32 x_13 M_10))))))
def l_X10_judge_32 (h : Nat) (Q : Int32 → Mem → Prop) (v1 : Int32) : Nat → Int32 → Mem → Prop
  | 0 => fun _ _ => False
  | n + 1 => B_X10_judge_32 h Q v1 (l_X10_judge_32 h Q v1 n)
def wp_X10_judge (h : Nat) (a1 : Int32) (M : Mem) (Q : Int32 → Mem → Prop) : Prop :=
  kdT h = 10 ∧ (wp_X10_isSheet a1 M (fun r_15 M_14 => (¬ r_15 = 0 → vp_in a1 4 ∧ ((¬ (M_14 (h + 9) a1.toNatClampNeg) = 0 → ∃ n, l_X10_judge_32 h Q a1 n 0 M_14) ∧ ((M_14 (h + 9) a1.toNatClampNeg) = 0 → wp_X10_errs h (-1000000002) M_14 (fun r_20 M_19 => Q r_20 M_19)))) ∧ (r_15 = 0 → wp_X10_errs h (-1000000001) M_14 (fun r_22 M_21 => Q r_22 M_21))))
set_option maxHeartbeats 4000000 in
set_option maxRecDepth 100000 in
theorem so_X10_judge (l : Launch) (G : Gm) (h : Nat) (a1 : Int32) (M : Mem) (Q : Int32 → Mem → Prop) (hw : wp_X10_judge h a1 M Q) : Ct l G yX10_judge cX10_judge 3 (some .int) ({ frames := 2, cells := 0, slots := 0, locals := 42 } : Room) [.ref (G.1 + h), .int a1] M (Qi Q) := by
  unfold wp_X10_judge at hw
  obtain ⟨kh, hw⟩ := hw
  refine ct_of (by decide) (Nat.le_of_ble_eq_true rfl) ?_
  intro p e s m below meth c E_ ls H hl hP hS
  obtain ⟨hx, hb, hml, hown, hts, ht, hr, hlocks, hSt, hTb⟩ := E_
  have hl : lv_has ls 3 [(0, .ref (G.1 + h)), (1, .int a1)] := hl
  have J_78 : ∀ (v1 : Int32) (v2 : Int32) (M : Mem) (H : Heap) (locs : List Loc) (ls : Array Slot), b_X10_judge_78 h Q v1 v2 M → va_P G.2.1 clsA (wl G M) H → va_S (inW G) s.heap H locs → lv_has ls 3 [(0, .ref (G.1 + h)), (1, .int v1), (2, .int v2)] → W p l e ({ frames := 2, cells := 0, slots := 0, locals := 42 } : Room) s m ([.ref (G.1 + h), .int a1] : List Value).toArray below meth c H locs 0 0 (MQ below (Pq G (Qi Q)) ([.ref (G.1 + h), .int a1] : List Value).toArray s 0 0 (inW G)) (F0 m 78 ls []) := by
    intro v1 v2 M H locs ls  hw hP hS hl
    unfold b_X10_judge_78 at hw
    refine lv_iload_n hx hb dX10_judge_78 rfl (lv_at hl 2 rfl) ?_
    refine lv_aload_n hx hb dX10_judge_79 rfl (lv_at hl 0 rfl) ?_
    refine mw_get (ci := 10) (v := .ref (G.1 + (h + 1))) (C := RX10) (T := TX10) (N := 25) hx hb ht inX10 hown hSt hP kh (by decide) (mk10 kh) rfl 0 (by decide) (ht _ wf_RX10_7) rfl rfl dX10_judge_80 ?_
    refine lv_iconst (v := 2) hx hb dX10_judge_83 (by decide) ?_
    refine mw_ialdc hx hb hSt hP (ks10_0 kh) (ln10_0 kh) 2 (by decide) dX10_judge_84 ?_
    refine lv_icmp_ne (tgt := 102) hx hb dX10_judge_85 (by decide) (fun c_2 => ?_) (fun c_2 => ?_)
    · have hw := hw.1 c_2
      refine lv_iload_n hx hb dX10_judge_102 rfl (lv_at hl 2 rfl) ?_
      exact W.iret hx hb hr (mw_end hP hSt hTb hS ⟨_, rfl, hw⟩) hS.2.2 dX10_judge_103
    · have hw := hw.2 c_2
      refine lv_iload_n hx hb dX10_judge_88 rfl (lv_at hl 2 rfl) ?_
      refine lv_aload_n hx hb dX10_judge_89 rfl (lv_at hl 0 rfl) ?_
      refine mw_get (ci := 10) (v := .ref (G.1 + (h + 10))) (C := RX10) (T := TX10) (N := 25) hx hb ht inX10 hown hSt hP kh (by decide) (mk10 kh) rfl 17 (by decide) (ht _ wf_RX10_37) rfl rfl dX10_judge_90 ?_
      refine lv_iload_n hx hb dX10_judge_93 rfl (lv_at hl 1 rfl) ?_
      obtain ⟨c_3, hw⟩ := hw
      refine mw_iald hx hb hSt hP (ks10_17 kh) (by rw [(ln10_17 kh)]; exact c_3) dX10_judge_94 ?_
      refine lv_icmp_ne (tgt := 102) hx hb dX10_judge_95 (by decide) (fun c_4 => ?_) (fun c_4 => ?_)
      · have hw := hw.1 c_4
        refine lv_iload_n hx hb dX10_judge_102 rfl (lv_at hl 2 rfl) ?_
        exact W.iret hx hb hr (mw_end hP hSt hTb hS ⟨_, rfl, hw⟩) hS.2.2 dX10_judge_103
      · have hw := hw.2 c_4
        refine lv_iconst (v := (-1)) hx hb dX10_judge_98 (by decide) ?_
        refine lv_goto (tgt := 103) hx hb dX10_judge_99 (by decide) ?_
        exact W.iret hx hb hr (mw_end hP hSt hTb hS ⟨_, rfl, hw⟩) hS.2.2 dX10_judge_103
  have L_32 : ∀ (v1 : Int32), ∀ (n32 : Nat) (v2 : Int32) (M : Mem) (H : Heap) (locs : List Loc) (ls : Array Slot), l_X10_judge_32 h Q v1 n32 v2 M → va_P G.2.1 clsA (wl G M) H → va_S (inW G) s.heap H locs → lv_has ls 3 [(0, .ref (G.1 + h)), (1, .int v1), (2, .int v2)] → W p l e ({ frames := 2, cells := 0, slots := 0, locals := 42 } : Room) s m ([.ref (G.1 + h), .int a1] : List Value).toArray below meth c H locs 0 0 (MQ below (Pq G (Qi Q)) ([.ref (G.1 + h), .int a1] : List Value).toArray s 0 0 (inW G)) (F0 m 32 ls []) := by
    intro v1  n32
    induction n32 with
    | zero => intro v2 M H locs ls  hw hP hS hl; exact False.elim hw
    | succ n32 ih32 =>
      intro v2 M H locs ls  hw hP hS hl
      have hw : B_X10_judge_32 h Q v1 (l_X10_judge_32 h Q v1 n32) v2 M := hw
      unfold B_X10_judge_32 at hw
      refine lv_iload_n hx hb dX10_judge_32 rfl (lv_at hl 2 rfl) ?_
      refine lv_aload_n hx hb dX10_judge_33 rfl (lv_at hl 0 rfl) ?_
      refine mw_get (ci := 10) (v := .ref (G.1 + (h + 1))) (C := RX10) (T := TX10) (N := 25) hx hb ht inX10 hown hSt hP kh (by decide) (mk10 kh) rfl 0 (by decide) (ht _ wf_RX10_7) rfl rfl dX10_judge_34 ?_
      refine lv_iconst (v := 2) hx hb dX10_judge_37 (by decide) ?_
      refine mw_ialdc hx hb hSt hP (ks10_0 kh) (ln10_0 kh) 2 (by decide) dX10_judge_38 ?_
      refine lv_icmp_ge (tgt := 78) hx hb dX10_judge_39 (by decide) (fun c_6 => ?_) (fun c_6 => ?_)
      · have hw := hw.1 c_6
        exact J_78 v1 v2 M _ _ _ hw hP hS (lv_sub hl [0, 1, 2] rfl)
      · have hw := hw.2 c_6
        refine lv_iload_n hx hb dX10_judge_42 rfl (lv_at hl 2 rfl) ?_
        refine lv_aload_n hx hb dX10_judge_43 rfl (lv_at hl 0 rfl) ?_
        refine mw_get (ci := 10) (v := .ref (G.1 + (h + 10))) (C := RX10) (T := TX10) (N := 25) hx hb ht inX10 hown hSt hP kh (by decide) (mk10 kh) rfl 17 (by decide) (ht _ wf_RX10_37) rfl rfl dX10_judge_44 ?_
        refine lv_iload_n hx hb dX10_judge_47 rfl (lv_at hl 1 rfl) ?_
        obtain ⟨c_7, hw⟩ := hw
        refine mw_iald hx hb hSt hP (ks10_17 kh) (by rw [(ln10_17 kh)]; exact c_7) dX10_judge_48 ?_
        refine lv_icmp_ge (tgt := 78) hx hb dX10_judge_49 (by decide) (fun c_8 => ?_) (fun c_8 => ?_)
        · have hw := hw.1 c_8
          exact J_78 v1 v2 M _ _ _ hw hP hS (lv_sub hl [0, 1, 2] rfl)
        · have hw := hw.2 c_8
          refine lv_aload_n hx hb dX10_judge_52 rfl (lv_at hl 0 rfl) ?_
          refine mw_get (ci := 10) (v := .ref (G.1 + (h + 11))) (C := RX10) (T := TX10) (N := 25) hx hb ht inX10 hown hSt hP kh (by decide) (mk10 kh) rfl 18 (by decide) (ht _ wf_RX10_40) rfl rfl dX10_judge_53 ?_
          refine lv_bipush (v := 40) hx hb dX10_judge_56 (by decide) ?_
          refine lv_iload_n hx hb dX10_judge_58 rfl (lv_at hl 1 rfl) ?_
          refine lv_imul hx hb dX10_judge_59 ?_
          refine lv_iload_n hx hb dX10_judge_60 rfl (lv_at hl 2 rfl) ?_
          refine lv_iadd hx hb dX10_judge_61 ?_
          obtain ⟨c_9, hw⟩ := hw
          refine mw_iald hx hb hSt hP (ks10_18 kh) (by rw [(ln10_18 kh)]; exact c_9) dX10_judge_62 ?_
          refine lv_aload_n hx hb dX10_judge_63 rfl (lv_at hl 0 rfl) ?_
          refine lv_iload_n hx hb dX10_judge_64 rfl (lv_at hl 2 rfl) ?_
          refine lv_iconst (v := 3) hx hb dX10_judge_65 (by decide) ?_
          refine mw_V (As := [.int v2, .int 3]) (rest := [.int (M (h + 11) ((40 * v1) + v2).toNatClampNeg)]) (T := TX10) (N := 25) (n := 2) ⟨hx, hb, hml, hown, hts⟩ (so_X10_its l G h v2 3 M _ hw) wm_RX10_67 wi_yX10_its wv_yX10_its wn_RX10 wc_yX10_its (by decide) ⟨Nat.le_of_ble_eq_true rfl, Nat.le_of_ble_eq_true rfl⟩ ⟨rfl, rfl⟩ kh (by decide) (mk10 kh) rfl hSt hTb hP hS rfl hl.1 rfl (Nat.le_of_ble_eq_true rfl) dX10_judge_66 ⟨Nat.le_refl 0, Nat.le_refl 0⟩ (fun rr_ M_10 H locs hq hP hS => ?_)
          obtain ⟨r_11, rfl, hw⟩ := hq
          refine lv_icmp_ne (tgt := 78) hx hb dX10_judge_69 (by decide) (fun c_12 => ?_) (fun c_12 => ?_)
          · have hw := hw.1 c_12
            exact J_78 v1 v2 M_10 _ _ _ hw hP hS (lv_sub hl [0, 1, 2] rfl)
          · have hw := hw.2 c_12
            obtain ⟨x_13, ex_13⟩ : ∃ z : Int32, z = v2 + 1 := ⟨_, rfl⟩
            have hw := hw x_13 ex_13
            refine lv_iinc (v := x_13) (lv' := [(2, .int x_13), (0, .ref (G.1 + h)), (1, .int v1)]) hx hb dX10_judge_72 hl (k := 2) rfl (by rw [ex_13]; rfl) (by decide) rfl (fun ls hl => ?_)
            refine lv_goto (tgt := 32) hx hb dX10_judge_75 (by decide) ?_
            exact ih32 x_13 M_10 _ _ _ hw hP hS (lv_sub hl [1, 2, 0] rfl)
  refine lv_iload_n hx hb dX10_judge_0 rfl (lv_at hl 1 rfl) ?_
  refine mw_Sx (As := [.int a1]) (rest := []) (n := 1) ⟨hx, hb, hml, hown, hts⟩ (so_X10_isSheet l G a1 M _ hw) wm_RX10_208 wt_yX10_isSheet wn_RX10 wc_yX10_isSheet (by decide) ⟨Nat.le_of_ble_eq_true rfl, Nat.le_of_ble_eq_true rfl⟩ ⟨rfl, rfl⟩ hSt hTb hP hS rfl hl.1 rfl (Nat.le_of_ble_eq_true rfl) dX10_judge_1 ⟨Nat.le_refl 0, Nat.le_refl 0⟩ (fun rr_ M_14 H locs hq hP hS => ?_)
  obtain ⟨r_15, rfl, hw⟩ := hq
  refine lv_if_ne (tgt := 14) hx hb dX10_judge_4 (by decide) (fun c_16 => ?_) (fun c_16 => ?_)
  · have hw := hw.1 c_16
    refine lv_aload_n hx hb dX10_judge_14 rfl (lv_at hl 0 rfl) ?_
    refine mw_get (ci := 10) (v := .ref (G.1 + (h + 9))) (C := RX10) (T := TX10) (N := 25) hx hb ht inX10 hown hSt hP kh (by decide) (mk10 kh) rfl 16 (by decide) (ht _ wf_RX10_34) rfl rfl dX10_judge_15 ?_
    refine lv_iload_n hx hb dX10_judge_18 rfl (lv_at hl 1 rfl) ?_
    obtain ⟨c_17, hw⟩ := hw
    refine mw_iald hx hb hSt hP (ks10_16 kh) (by rw [(ln10_16 kh)]; exact c_17) dX10_judge_19 ?_
    refine lv_if_ne (tgt := 30) hx hb dX10_judge_20 (by decide) (fun c_18 => ?_) (fun c_18 => ?_)
    · have hw := hw.1 c_18
      refine lv_iconst (v := 0) hx hb dX10_judge_30 (by decide) ?_
      refine lv_istore_n (lv' := [(2, .int 0), (0, .ref (G.1 + h)), (1, .int a1)]) hx hb dX10_judge_31 rfl hl (by decide) rfl (fun ls hl => ?_)
      obtain ⟨n_, hw⟩ := hw
      exact L_32 a1 n_ 0 M_14 _ _ _ hw hP hS (lv_sub hl [1, 2, 0] rfl)
    · have hw := hw.2 c_18
      refine lv_aload_n hx hb dX10_judge_23 rfl (lv_at hl 0 rfl) ?_
      refine lv_ldc (v := (-1000000002)) hx hb hown (ht _ wk_RX10_204) dX10_judge_24 ?_
      refine mw_V (As := [.int (-1000000002)]) (rest := []) (T := TX10) (N := 25) (n := 1) ⟨hx, hb, hml, hown, hts⟩ (so_X10_errs l G h (-1000000002) M_14 _ hw) wm_RX10_63 wi_yX10_errs wv_yX10_errs wn_RX10 wc_yX10_errs (by decide) ⟨Nat.le_of_ble_eq_true rfl, Nat.le_of_ble_eq_true rfl⟩ ⟨rfl, rfl⟩ kh (by decide) (mk10 kh) rfl hSt hTb hP hS rfl hl.1 rfl (Nat.le_of_ble_eq_true rfl) dX10_judge_26 ⟨Nat.le_refl 0, Nat.le_refl 0⟩ (fun rr_ M_19 H locs hq hP hS => ?_)
      obtain ⟨r_20, rfl, hw⟩ := hq
      exact W.iret hx hb hr (mw_end hP hSt hTb hS ⟨_, rfl, hw⟩) hS.2.2 dX10_judge_29
  · have hw := hw.2 c_16
    refine lv_aload_n hx hb dX10_judge_7 rfl (lv_at hl 0 rfl) ?_
    refine lv_ldc (v := (-1000000001)) hx hb hown (ht _ wk_RX10_62) dX10_judge_8 ?_
    refine mw_V (As := [.int (-1000000001)]) (rest := []) (T := TX10) (N := 25) (n := 1) ⟨hx, hb, hml, hown, hts⟩ (so_X10_errs l G h (-1000000001) M_14 _ hw) wm_RX10_63 wi_yX10_errs wv_yX10_errs wn_RX10 wc_yX10_errs (by decide) ⟨Nat.le_of_ble_eq_true rfl, Nat.le_of_ble_eq_true rfl⟩ ⟨rfl, rfl⟩ kh (by decide) (mk10 kh) rfl hSt hTb hP hS rfl hl.1 rfl (Nat.le_of_ble_eq_true rfl) dX10_judge_10 ⟨Nat.le_refl 0, Nat.le_refl 0⟩ (fun rr_ M_21 H locs hq hP hS => ?_)
    obtain ⟨r_22, rfl, hw⟩ := hq
    exact W.iret hx hb hr (mw_end hP hSt hTb hS ⟨_, rfl, hw⟩) hS.2.2 dX10_judge_13
def wp_X10_image (h : Nat) (M : Mem) (Q : Int32 → Mem → Prop) : Prop :=
  kdT h = 10 ∧ (wp_X10_moveAll h (h + 1) (h + 2) M (fun M_1 => ∀ M_2, M_2 = mu M_1 h 3 1 → ∀ M_3, M_3 = mu M_2 h 4 ((M_2 h 4) + 1) → Q (M_3 h 4) M_3))
set_option maxHeartbeats 4000000 in
set_option maxRecDepth 100000 in
theorem so_X10_image (l : Launch) (G : Gm) (h : Nat) (M : Mem) (Q : Int32 → Mem → Prop) (hw : wp_X10_image h M Q) : Ct l G yX10_image cX10_image 1 (some .int) ({ frames := 1, cells := 0, slots := 0, locals := 23 } : Room) [.ref (G.1 + h)] M (Qi Q) := by
  unfold wp_X10_image at hw
  obtain ⟨kh, hw⟩ := hw
  refine ct_of (by decide) (Nat.le_of_ble_eq_true rfl) ?_
  intro p e s m below meth c E_ ls H hl hP hS
  obtain ⟨hx, hb, hml, hown, hts, ht, hr, hlocks, hSt, hTb⟩ := E_
  have hl : lv_has ls 1 [(0, .ref (G.1 + h))] := hl
  refine lv_aload_n hx hb dX10_image_0 rfl (lv_at hl 0 rfl) ?_
  refine lv_aload_n hx hb dX10_image_1 rfl (lv_at hl 0 rfl) ?_
  refine mw_get (ci := 10) (v := .ref (G.1 + (h + 1))) (C := RX10) (T := TX10) (N := 25) hx hb ht inX10 hown hSt hP kh (by decide) (mk10 kh) rfl 0 (by decide) (ht _ wf_RX10_7) rfl rfl dX10_image_2 ?_
  refine lv_aload_n hx hb dX10_image_5 rfl (lv_at hl 0 rfl) ?_
  refine mw_get (ci := 10) (v := .ref (G.1 + (h + 2))) (C := RX10) (T := TX10) (N := 25) hx hb ht inX10 hown hSt hP kh (by decide) (mk10 kh) rfl 1 (by decide) (ht _ wf_RX10_13) rfl rfl dX10_image_6 ?_
  refine mw_V (As := [.ref (G.1 + (h + 1)), .ref (G.1 + (h + 2))]) (rest := []) (T := TX10) (N := 25) (n := 2) ⟨hx, hb, hml, hown, hts⟩ (so_X10_moveAll l G h (h + 1) (h + 2) M _ hw) wm_RX10_188 wi_yX10_moveAll wv_yX10_moveAll wn_RX10 wc_yX10_moveAll (by decide) ⟨Nat.le_of_ble_eq_true rfl, Nat.le_of_ble_eq_true rfl⟩ ⟨rfl, rfl⟩ kh (by decide) (mk10 kh) rfl hSt hTb hP hS rfl hl.1 rfl (Nat.le_of_ble_eq_true rfl) dX10_image_9 ⟨Nat.le_refl 0, Nat.le_refl 0⟩ (fun rr_ M_1 H locs hq hP hS => ?_)
  obtain ⟨rfl, hw⟩ := hq
  refine lv_aload_n hx hb dX10_image_12 rfl (lv_at hl 0 rfl) ?_
  refine lv_iconst (v := 1) hx hb dX10_image_13 (by decide) ?_
  refine mw_put (ci := 10) (v := 1) (ty := .boolean) (C := RX10) (T := TX10) (N := 25) hx hb ht inX10 tyX10 tyX10_ok nmX10 hown hSt hP hS kh (by decide) (mk10 kh) rfl 3 (by decide) (ht _ wf_RX10_247) rfl rfl (by decide +kernel) (by decide) (by decide) (Nat.le_of_ble_eq_true rfl) (by rw [mk10 kh]; simp [mu]) dX10_image_14 (fun M_2 H locs eM_2 hP hS => ?_)
  have hw := hw M_2 eM_2
  refine lv_aload_n hx hb dX10_image_17 rfl (lv_at hl 0 rfl) ?_
  refine lv_dup hx hb dX10_image_18 rfl ?_
  refine mw_get (ci := 10) (v := .int (M_2 h 4)) (C := RX10) (T := TX10) (N := 25) hx hb ht inX10 hown hSt hP kh (by decide) (mk10 kh) rfl 4 (by decide) (ht _ wf_RX10_250) rfl rfl dX10_image_19 ?_
  refine lv_iconst (v := 1) hx hb dX10_image_22 (by decide) ?_
  refine lv_iadd hx hb dX10_image_23 ?_
  refine mw_put (ci := 10) (v := (M_2 h 4) + 1) (ty := .int) (C := RX10) (T := TX10) (N := 25) hx hb ht inX10 tyX10 tyX10_ok nmX10 hown hSt hP hS kh (by decide) (mk10 kh) rfl 4 (by decide) (ht _ wf_RX10_250) rfl rfl (by decide +kernel) (vp_nar_int _) rfl (Nat.le_of_ble_eq_true rfl) (by rw [mk10 kh]; simp [mu]) dX10_image_24 (fun M_3 H locs eM_3 hP hS => ?_)
  have hw := hw M_3 eM_3
  refine lv_aload_n hx hb dX10_image_27 rfl (lv_at hl 0 rfl) ?_
  refine mw_get (ci := 10) (v := .int (M_3 h 4)) (C := RX10) (T := TX10) (N := 25) hx hb ht inX10 hown hSt hP kh (by decide) (mk10 kh) rfl 4 (by decide) (ht _ wf_RX10_250) rfl rfl dX10_image_28 ?_
  exact W.iret hx hb hr (mw_end hP hSt hTb hS ⟨_, rfl, hw⟩) hS.2.2 dX10_image_31
def wp_X10_restore (h : Nat) (M : Mem) (Q : Int32 → Mem → Prop) : Prop :=
  kdT h = 10 ∧ ((¬ (M h 3) = 0 → wp_X10_moveAll h (h + 2) (h + 1) M (fun M_2 => Q (M_2 (h + 1) 0) M_2)) ∧ ((M h 3) = 0 → wp_X10_errs h (-1000000002) M (fun r_5 M_4 => Q r_5 M_4)))
set_option maxHeartbeats 4000000 in
set_option maxRecDepth 100000 in
theorem so_X10_restore (l : Launch) (G : Gm) (h : Nat) (M : Mem) (Q : Int32 → Mem → Prop) (hw : wp_X10_restore h M Q) : Ct l G yX10_restore cX10_restore 1 (some .int) ({ frames := 1, cells := 0, slots := 0, locals := 23 } : Room) [.ref (G.1 + h)] M (Qi Q) := by
  unfold wp_X10_restore at hw
  obtain ⟨kh, hw⟩ := hw
  refine ct_of (by decide) (Nat.le_of_ble_eq_true rfl) ?_
  intro p e s m below meth c E_ ls H hl hP hS
  obtain ⟨hx, hb, hml, hown, hts, ht, hr, hlocks, hSt, hTb⟩ := E_
  have hl : lv_has ls 1 [(0, .ref (G.1 + h))] := hl
  refine lv_aload_n hx hb dX10_restore_0 rfl (lv_at hl 0 rfl) ?_
  refine mw_get (ci := 10) (v := .int (M h 3)) (C := RX10) (T := TX10) (N := 25) hx hb ht inX10 hown hSt hP kh (by decide) (mk10 kh) rfl 3 (by decide) (ht _ wf_RX10_247) rfl rfl dX10_restore_1 ?_
  refine lv_if_ne (tgt := 14) hx hb dX10_restore_4 (by decide) (fun c_1 => ?_) (fun c_1 => ?_)
  · have hw := hw.1 c_1
    refine lv_aload_n hx hb dX10_restore_14 rfl (lv_at hl 0 rfl) ?_
    refine lv_aload_n hx hb dX10_restore_15 rfl (lv_at hl 0 rfl) ?_
    refine mw_get (ci := 10) (v := .ref (G.1 + (h + 2))) (C := RX10) (T := TX10) (N := 25) hx hb ht inX10 hown hSt hP kh (by decide) (mk10 kh) rfl 1 (by decide) (ht _ wf_RX10_13) rfl rfl dX10_restore_16 ?_
    refine lv_aload_n hx hb dX10_restore_19 rfl (lv_at hl 0 rfl) ?_
    refine mw_get (ci := 10) (v := .ref (G.1 + (h + 1))) (C := RX10) (T := TX10) (N := 25) hx hb ht inX10 hown hSt hP kh (by decide) (mk10 kh) rfl 0 (by decide) (ht _ wf_RX10_7) rfl rfl dX10_restore_20 ?_
    refine mw_V (As := [.ref (G.1 + (h + 2)), .ref (G.1 + (h + 1))]) (rest := []) (T := TX10) (N := 25) (n := 2) ⟨hx, hb, hml, hown, hts⟩ (so_X10_moveAll l G h (h + 2) (h + 1) M _ hw) wm_RX10_188 wi_yX10_moveAll wv_yX10_moveAll wn_RX10 wc_yX10_moveAll (by decide) ⟨Nat.le_of_ble_eq_true rfl, Nat.le_of_ble_eq_true rfl⟩ ⟨rfl, rfl⟩ kh (by decide) (mk10 kh) rfl hSt hTb hP hS rfl hl.1 rfl (Nat.le_of_ble_eq_true rfl) dX10_restore_23 ⟨Nat.le_refl 0, Nat.le_refl 0⟩ (fun rr_ M_2 H locs hq hP hS => ?_)
    obtain ⟨rfl, hw⟩ := hq
    refine lv_aload_n hx hb dX10_restore_26 rfl (lv_at hl 0 rfl) ?_
    refine mw_get (ci := 10) (v := .ref (G.1 + (h + 1))) (C := RX10) (T := TX10) (N := 25) hx hb ht inX10 hown hSt hP kh (by decide) (mk10 kh) rfl 0 (by decide) (ht _ wf_RX10_7) rfl rfl dX10_restore_27 ?_
    refine lv_iconst (v := 0) hx hb dX10_restore_30 (by decide) ?_
    refine mw_ialdc hx hb hSt hP (ks10_0 kh) (ln10_0 kh) 0 (by decide) dX10_restore_31 ?_
    exact W.iret hx hb hr (mw_end hP hSt hTb hS ⟨_, rfl, hw⟩) hS.2.2 dX10_restore_32
  · have hw := hw.2 c_1
    refine lv_aload_n hx hb dX10_restore_7 rfl (lv_at hl 0 rfl) ?_
    refine lv_ldc (v := (-1000000002)) hx hb hown (ht _ wk_RX10_204) dX10_restore_8 ?_
    refine mw_V (As := [.int (-1000000002)]) (rest := []) (T := TX10) (N := 25) (n := 1) ⟨hx, hb, hml, hown, hts⟩ (so_X10_errs l G h (-1000000002) M _ hw) wm_RX10_63 wi_yX10_errs wv_yX10_errs wn_RX10 wc_yX10_errs (by decide) ⟨Nat.le_of_ble_eq_true rfl, Nat.le_of_ble_eq_true rfl⟩ ⟨rfl, rfl⟩ kh (by decide) (mk10 kh) rfl hSt hTb hP hS rfl hl.1 rfl (Nat.le_of_ble_eq_true rfl) dX10_restore_10 ⟨Nat.le_refl 0, Nat.le_refl 0⟩ (fun rr_ M_4 H locs hq hP hS => ?_)
    obtain ⟨r_5, rfl, hw⟩ := hq
    exact W.iret hx hb hr (mw_end hP hSt hTb hS ⟨_, rfl, hw⟩) hS.2.2 dX10_restore_13
def wp_X10_tell (h : Nat) (a1 : Int32) (M : Mem) (Q : Int32 → Mem → Prop) : Prop :=
  kdT h = 10 ∧ ((¬ (M (h + 1) 5) = 20 → vp_in (122 + (M (h + 1) 5)) 242 ∧ ∀ M_5, M_5 = mu M (h + 1) (122 + (M (h + 1) 5)).toNatClampNeg a1 → ∀ M_8, M_8 = mu M_5 (h + 1) 5 ((M_5 (h + 1) 5) + 1) → Q (M_8 (h + 1) 5) M_8) ∧ ((M (h + 1) 5) = 20 → wp_X10_errs h (-1000000004) M (fun r_11 M_10 => Q r_11 M_10)))
set_option maxHeartbeats 4000000 in
set_option maxRecDepth 100000 in
theorem so_X10_tell (l : Launch) (G : Gm) (h : Nat) (a1 : Int32) (M : Mem) (Q : Int32 → Mem → Prop) (hw : wp_X10_tell h a1 M Q) : Ct l G yX10_tell cX10_tell 2 (some .int) ({ frames := 1, cells := 0, slots := 0, locals := 21 } : Room) [.ref (G.1 + h), .int a1] M (Qi Q) := by
  unfold wp_X10_tell at hw
  obtain ⟨kh, hw⟩ := hw
  refine ct_of (by decide) (Nat.le_of_ble_eq_true rfl) ?_
  intro p e s m below meth c E_ ls H hl hP hS
  obtain ⟨hx, hb, hml, hown, hts, ht, hr, hlocks, hSt, hTb⟩ := E_
  have hl : lv_has ls 2 [(0, .ref (G.1 + h)), (1, .int a1)] := hl
  refine lv_aload_n hx hb dX10_tell_0 rfl (lv_at hl 0 rfl) ?_
  refine mw_get (ci := 10) (v := .ref (G.1 + (h + 1))) (C := RX10) (T := TX10) (N := 25) hx hb ht inX10 hown hSt hP kh (by decide) (mk10 kh) rfl 0 (by decide) (ht _ wf_RX10_7) rfl rfl dX10_tell_1 ?_
  refine lv_iconst (v := 5) hx hb dX10_tell_4 (by decide) ?_
  refine mw_ialdc hx hb hSt hP (ks10_0 kh) (ln10_0 kh) 5 (by decide) dX10_tell_5 ?_
  refine lv_bipush (v := 20) hx hb dX10_tell_6 (by decide) ?_
  refine lv_icmp_ne (tgt := 18) hx hb dX10_tell_8 (by decide) (fun c_2 => ?_) (fun c_2 => ?_)
  · have hw := hw.1 c_2
    refine lv_aload_n hx hb dX10_tell_18 rfl (lv_at hl 0 rfl) ?_
    refine mw_get (ci := 10) (v := .ref (G.1 + (h + 1))) (C := RX10) (T := TX10) (N := 25) hx hb ht inX10 hown hSt hP kh (by decide) (mk10 kh) rfl 0 (by decide) (ht _ wf_RX10_7) rfl rfl dX10_tell_19 ?_
    refine lv_bipush (v := 122) hx hb dX10_tell_22 (by decide) ?_
    refine lv_aload_n hx hb dX10_tell_24 rfl (lv_at hl 0 rfl) ?_
    refine mw_get (ci := 10) (v := .ref (G.1 + (h + 1))) (C := RX10) (T := TX10) (N := 25) hx hb ht inX10 hown hSt hP kh (by decide) (mk10 kh) rfl 0 (by decide) (ht _ wf_RX10_7) rfl rfl dX10_tell_25 ?_
    refine lv_iconst (v := 5) hx hb dX10_tell_28 (by decide) ?_
    refine mw_ialdc hx hb hSt hP (ks10_0 kh) (ln10_0 kh) 5 (by decide) dX10_tell_29 ?_
    refine lv_iadd hx hb dX10_tell_30 ?_
    refine lv_iload_n hx hb dX10_tell_31 rfl (lv_at hl 1 rfl) ?_
    obtain ⟨c_4, hw⟩ := hw
    refine mw_iast hx hb hSt hP hS (ks10_0 kh) (by rw [(ln10_0 kh)]; exact c_4) dX10_tell_32 (fun M_5 H locs eM_5 hP hS => ?_)
    have hw := hw M_5 eM_5
    refine lv_aload_n hx hb dX10_tell_33 rfl (lv_at hl 0 rfl) ?_
    refine mw_get (ci := 10) (v := .ref (G.1 + (h + 1))) (C := RX10) (T := TX10) (N := 25) hx hb ht inX10 hown hSt hP kh (by decide) (mk10 kh) rfl 0 (by decide) (ht _ wf_RX10_7) rfl rfl dX10_tell_34 ?_
    refine lv_iconst (v := 5) hx hb dX10_tell_37 (by decide) ?_
    refine lv_dup2_11 hx hb dX10_tell_38 rfl rfl ?_
    refine mw_ialdc hx hb hSt hP (ks10_0 kh) (ln10_0 kh) 5 (by decide) dX10_tell_39 ?_
    refine lv_iconst (v := 1) hx hb dX10_tell_40 (by decide) ?_
    refine lv_iadd hx hb dX10_tell_41 ?_
    refine mw_iastc hx hb hSt hP hS (ks10_0 kh) (ln10_0 kh) 5 (by decide) dX10_tell_42 (fun M_8 H locs eM_8 hP hS => ?_)
    have hw := hw M_8 eM_8
    refine lv_aload_n hx hb dX10_tell_43 rfl (lv_at hl 0 rfl) ?_
    refine mw_get (ci := 10) (v := .ref (G.1 + (h + 1))) (C := RX10) (T := TX10) (N := 25) hx hb ht inX10 hown hSt hP kh (by decide) (mk10 kh) rfl 0 (by decide) (ht _ wf_RX10_7) rfl rfl dX10_tell_44 ?_
    refine lv_iconst (v := 5) hx hb dX10_tell_47 (by decide) ?_
    refine mw_ialdc hx hb hSt hP (ks10_0 kh) (ln10_0 kh) 5 (by decide) dX10_tell_48 ?_
    exact W.iret hx hb hr (mw_end hP hSt hTb hS ⟨_, rfl, hw⟩) hS.2.2 dX10_tell_49
  · have hw := hw.2 c_2
    refine lv_aload_n hx hb dX10_tell_11 rfl (lv_at hl 0 rfl) ?_
    refine lv_ldc (v := (-1000000004)) hx hb hown (ht _ wk_RX10_77) dX10_tell_12 ?_
    refine mw_V (As := [.int (-1000000004)]) (rest := []) (T := TX10) (N := 25) (n := 1) ⟨hx, hb, hml, hown, hts⟩ (so_X10_errs l G h (-1000000004) M _ hw) wm_RX10_63 wi_yX10_errs wv_yX10_errs wn_RX10 wc_yX10_errs (by decide) ⟨Nat.le_of_ble_eq_true rfl, Nat.le_of_ble_eq_true rfl⟩ ⟨rfl, rfl⟩ kh (by decide) (mk10 kh) rfl hSt hTb hP hS rfl hl.1 rfl (Nat.le_of_ble_eq_true rfl) dX10_tell_14 ⟨Nat.le_refl 0, Nat.le_refl 0⟩ (fun rr_ M_10 H locs hq hP hS => ?_)
    obtain ⟨r_11, rfl, hw⟩ := hq
    exact W.iret hx hb hr (mw_end hP hSt hTb hS ⟨_, rfl, hw⟩) hS.2.2 dX10_tell_17
def b_X10_check_83 (h : Nat) (Q : Int32 → Mem → Prop) (v2 : Int32) (v3 : Int32) (M : Mem) : Prop :=
  wp_X10_moveAll h (h + 3) (h + 1) M (fun M_1 => (v3 = 0 → Q (1 + v2) M_1) ∧ (¬ v3 = 0 → Q 0 M_1))
def b_X10_check_78 (h : Nat) (Q : Int32 → Mem → Prop) (K30 : Int32 → Int32 → Mem → Prop) (v1 : Int32) (v3 : Int32) (s0 : Int32) (s1 : Int32) (M : Mem) : Prop :=
  ∀ x_3, x_3 = s0 + s1 → K30 x_3 v3 M
def b_X10_check_67 (h : Nat) (Q : Int32 → Mem → Prop) (K30 : Int32 → Int32 → Mem → Prop) (v1 : Int32) (v2 : Int32) (s0 : Int32) (M : Mem) : Prop :=
  (s0 = 0 → b_X10_check_78 h Q K30 v1 s0 v2 0 M) ∧ (¬ s0 = 0 → b_X10_check_78 h Q K30 v1 s0 v2 1 M)
def B_X10_check_30 (h : Nat) (Q : Int32 → Mem → Prop) (v1 : Int32) (K30 : Int32 → Int32 → Mem → Prop) (v2 : Int32) (v3 : Int32) (M : Mem) : Prop :=
  (v1 ≤ v2 → b_X10_check_83 h Q v2 v3 M) ∧ (¬ v1 ≤ v2 → (v3 = 0 → b_X10_check_83 h Q v2 v3 M) ∧ (¬ v3 = 0 → wp_X10_oneHour h M (fun M_7 => wp_X10_foundSet h M_7 (fun r_9 M_8 => wp_X10_bits r_9 M_8 (fun r_11 M_10 => vp_in (122 + v2) 242 ∧ ((¬ r_11 = (M_10 (h + 1) (122 + v2).toNatClampNeg) → b_X10_check_67 h Q K30 v1 v2 0 M_10) ∧ (r_11 = (M_10 (h + 1) (122 + v2).toNatClampNeg) → b_X10_check_67 h Q K30 v1 v2 1 M_10)))))))
def l_X10_check_30 (h : Nat) (Q : Int32 → Mem → Prop) (v1 : Int32) : Nat → Int32 → Int32 → Mem → Prop
  | 0 => fun _ _ _ => False
  | n + 1 => B_X10_check_30 h Q v1 (l_X10_check_30 h Q v1 n)
def wp_X10_check (h : Nat) (M : Mem) (Q : Int32 → Mem → Prop) : Prop :=
  kdT h = 10 ∧ (∀ x_15, x_15 = M (h + 1) 5 → ∀ M_17, M_17 = mu M (h + 1) 5 0 → wp_X10_moveAll h (h + 1) (h + 3) M_17 (fun M_18 => ∃ n, l_X10_check_30 h Q x_15 n 0 1 M_18))
set_option maxHeartbeats 4000000 in
set_option maxRecDepth 100000 in
theorem so_X10_check (l : Launch) (G : Gm) (h : Nat) (M : Mem) (Q : Int32 → Mem → Prop) (hw : wp_X10_check h M Q) : Ct l G yX10_check cX10_check 4 (some .int) ({ frames := 6, cells := 0, slots := 0, locals := 144 } : Room) [.ref (G.1 + h)] M (Qi Q) := by
  unfold wp_X10_check at hw
  obtain ⟨kh, hw⟩ := hw
  refine ct_of (by decide) (Nat.le_of_ble_eq_true rfl) ?_
  intro p e s m below meth c E_ ls H hl hP hS
  obtain ⟨hx, hb, hml, hown, hts, ht, hr, hlocks, hSt, hTb⟩ := E_
  have hl : lv_has ls 4 [(0, .ref (G.1 + h))] := hl
  have J_83 : ∀ (v2 : Int32) (v3 : Int32) (M : Mem) (H : Heap) (locs : List Loc) (ls : Array Slot), b_X10_check_83 h Q v2 v3 M → va_P G.2.1 clsA (wl G M) H → va_S (inW G) s.heap H locs → lv_has ls 4 [(0, .ref (G.1 + h)), (2, .int v2), (3, .int v3)] → W p l e ({ frames := 6, cells := 0, slots := 0, locals := 144 } : Room) s m ([.ref (G.1 + h)] : List Value).toArray below meth c H locs 0 0 (MQ below (Pq G (Qi Q)) ([.ref (G.1 + h)] : List Value).toArray s 0 0 (inW G)) (F0 m 83 ls []) := by
    intro v2 v3 M H locs ls  hw hP hS hl
    unfold b_X10_check_83 at hw
    refine lv_aload_n hx hb dX10_check_83 rfl (lv_at hl 0 rfl) ?_
    refine lv_aload_n hx hb dX10_check_84 rfl (lv_at hl 0 rfl) ?_
    refine mw_get (ci := 10) (v := .ref (G.1 + (h + 3))) (C := RX10) (T := TX10) (N := 25) hx hb ht inX10 hown hSt hP kh (by decide) (mk10 kh) rfl 2 (by decide) (ht _ wf_RX10_16) rfl rfl dX10_check_85 ?_
    refine lv_aload_n hx hb dX10_check_88 rfl (lv_at hl 0 rfl) ?_
    refine mw_get (ci := 10) (v := .ref (G.1 + (h + 1))) (C := RX10) (T := TX10) (N := 25) hx hb ht inX10 hown hSt hP kh (by decide) (mk10 kh) rfl 0 (by decide) (ht _ wf_RX10_7) rfl rfl dX10_check_89 ?_
    refine mw_V (As := [.ref (G.1 + (h + 3)), .ref (G.1 + (h + 1))]) (rest := []) (T := TX10) (N := 25) (n := 2) ⟨hx, hb, hml, hown, hts⟩ (so_X10_moveAll l G h (h + 3) (h + 1) M _ hw) wm_RX10_188 wi_yX10_moveAll wv_yX10_moveAll wn_RX10 wc_yX10_moveAll (by decide) ⟨Nat.le_of_ble_eq_true rfl, Nat.le_of_ble_eq_true rfl⟩ ⟨rfl, rfl⟩ kh (by decide) (mk10 kh) rfl hSt hTb hP hS rfl hl.1 rfl (Nat.le_of_ble_eq_true rfl) dX10_check_92 ⟨Nat.le_refl 0, Nat.le_refl 0⟩ (fun rr_ M_1 H locs hq hP hS => ?_)
    obtain ⟨rfl, hw⟩ := hq
    refine lv_iload_n hx hb dX10_check_95 rfl (lv_at hl 2 rfl) ?_
    refine lv_if_eq (tgt := 103) hx hb dX10_check_96 (by decide) (fun c_2 => ?_) (fun c_2 => ?_)
    · have hw := hw.1 c_2
      refine lv_iconst (v := 1) hx hb dX10_check_103 (by decide) ?_
      refine lv_iload_n hx hb dX10_check_104 rfl (lv_at hl 1 rfl) ?_
      refine lv_iadd hx hb dX10_check_105 ?_
      exact W.iret hx hb hr (mw_end hP hSt hTb hS ⟨_, rfl, hw⟩) hS.2.2 dX10_check_106
    · have hw := hw.2 c_2
      refine lv_iconst (v := 0) hx hb dX10_check_99 (by decide) ?_
      refine lv_goto (tgt := 106) hx hb dX10_check_100 (by decide) ?_
      exact W.iret hx hb hr (mw_end hP hSt hTb hS ⟨_, rfl, hw⟩) hS.2.2 dX10_check_106
  have L_30 : ∀ (v1 : Int32), ∀ (n30 : Nat) (v2 : Int32) (v3 : Int32) (M : Mem) (H : Heap) (locs : List Loc) (ls : Array Slot), l_X10_check_30 h Q v1 n30 v2 v3 M → va_P G.2.1 clsA (wl G M) H → va_S (inW G) s.heap H locs → lv_has ls 4 [(0, .ref (G.1 + h)), (1, .int v1), (2, .int v2), (3, .int v3)] → W p l e ({ frames := 6, cells := 0, slots := 0, locals := 144 } : Room) s m ([.ref (G.1 + h)] : List Value).toArray below meth c H locs 0 0 (MQ below (Pq G (Qi Q)) ([.ref (G.1 + h)] : List Value).toArray s 0 0 (inW G)) (F0 m 30 ls []) := by
    intro v1  n30
    induction n30 with
    | zero => intro v2 v3 M H locs ls  hw hP hS hl; exact False.elim hw
    | succ n30 ih30 =>
      have J_78 : ∀ (v3 : Int32) (s0 : Int32) (s1 : Int32) (M : Mem) (H : Heap) (locs : List Loc) (ls : Array Slot), b_X10_check_78 h Q (l_X10_check_30 h Q v1 n30) v1 v3 s0 s1 M → va_P G.2.1 clsA (wl G M) H → va_S (inW G) s.heap H locs → lv_has ls 4 [(0, .ref (G.1 + h)), (1, .int v1), (3, .int v3)] → W p l e ({ frames := 6, cells := 0, slots := 0, locals := 144 } : Room) s m ([.ref (G.1 + h)] : List Value).toArray below meth c H locs 0 0 (MQ below (Pq G (Qi Q)) ([.ref (G.1 + h)] : List Value).toArray s 0 0 (inW G)) (F0 m 78 ls [.int s1, .int s0]) := by
        intro v3 s0 s1 M H locs ls  hw hP hS hl
        unfold b_X10_check_78 at hw
        refine lv_iadd hx hb dX10_check_78 ?_
        refine lv_topi (fun x_3 ex_3 => ?_)
        have hw := hw x_3 ex_3
        refine lv_istore_n (lv' := [(2, .int x_3), (0, .ref (G.1 + h)), (1, .int v1), (3, .int v3)]) hx hb dX10_check_79 rfl hl (by decide) rfl (fun ls hl => ?_)
        refine lv_goto (tgt := 30) hx hb dX10_check_80 (by decide) ?_
        exact ih30 x_3 v3 M _ _ _ hw hP hS (lv_sub hl [1, 2, 0, 3] rfl)
      have J_67 : ∀ (v2 : Int32) (s0 : Int32) (M : Mem) (H : Heap) (locs : List Loc) (ls : Array Slot), b_X10_check_67 h Q (l_X10_check_30 h Q v1 n30) v1 v2 s0 M → va_P G.2.1 clsA (wl G M) H → va_S (inW G) s.heap H locs → lv_has ls 4 [(0, .ref (G.1 + h)), (1, .int v1), (2, .int v2)] → W p l e ({ frames := 6, cells := 0, slots := 0, locals := 144 } : Room) s m ([.ref (G.1 + h)] : List Value).toArray below meth c H locs 0 0 (MQ below (Pq G (Qi Q)) ([.ref (G.1 + h)] : List Value).toArray s 0 0 (inW G)) (F0 m 67 ls [.int s0]) := by
        intro v2 s0 M H locs ls  hw hP hS hl
        unfold b_X10_check_67 at hw
        refine lv_istore_n (lv' := [(3, .int s0), (0, .ref (G.1 + h)), (1, .int v1), (2, .int v2)]) hx hb dX10_check_67 rfl hl (by decide) rfl (fun ls hl => ?_)
        refine lv_iload_n hx hb dX10_check_68 rfl (lv_at hl 3 rfl) ?_
        refine lv_iload_n hx hb dX10_check_69 rfl (lv_at hl 0 rfl) ?_
        refine lv_if_eq (tgt := 77) hx hb dX10_check_70 (by decide) (fun c_4 => ?_) (fun c_4 => ?_)
        · have hw := hw.1 c_4
          refine lv_iconst (v := 0) hx hb dX10_check_77 (by decide) ?_
          exact J_78 s0 v2 0 M _ _ _ hw hP hS (lv_sub hl [1, 2, 0] rfl)
        · have hw := hw.2 c_4
          refine lv_iconst (v := 1) hx hb dX10_check_73 (by decide) ?_
          refine lv_goto (tgt := 78) hx hb dX10_check_74 (by decide) ?_
          exact J_78 s0 v2 1 M _ _ _ hw hP hS (lv_sub hl [1, 2, 0] rfl)
      intro v2 v3 M H locs ls  hw hP hS hl
      have hw : B_X10_check_30 h Q v1 (l_X10_check_30 h Q v1 n30) v2 v3 M := hw
      unfold B_X10_check_30 at hw
      refine lv_iload_n hx hb dX10_check_30 rfl (lv_at hl 2 rfl) ?_
      refine lv_iload_n hx hb dX10_check_31 rfl (lv_at hl 1 rfl) ?_
      refine lv_icmp_ge (tgt := 83) hx hb dX10_check_32 (by decide) (fun c_5 => ?_) (fun c_5 => ?_)
      · have hw := hw.1 c_5
        exact J_83 v2 v3 M _ _ _ hw hP hS (lv_sub hl [0, 2, 3] rfl)
      · have hw := hw.2 c_5
        refine lv_iload_n hx hb dX10_check_35 rfl (lv_at hl 3 rfl) ?_
        refine lv_if_eq (tgt := 83) hx hb dX10_check_36 (by decide) (fun c_6 => ?_) (fun c_6 => ?_)
        · have hw := hw.1 c_6
          exact J_83 v2 v3 M _ _ _ hw hP hS (lv_sub hl [0, 2, 3] rfl)
        · have hw := hw.2 c_6
          refine lv_aload_n hx hb dX10_check_39 rfl (lv_at hl 0 rfl) ?_
          refine mw_V (As := []) (rest := []) (T := TX10) (N := 25) (n := 0) ⟨hx, hb, hml, hown, hts⟩ (so_X10_oneHour l G h M _ hw) wm_RX10_185 wi_yX10_oneHour wv_yX10_oneHour wn_RX10 wc_yX10_oneHour (by decide) ⟨Nat.le_of_ble_eq_true rfl, Nat.le_of_ble_eq_true rfl⟩ ⟨rfl, rfl⟩ kh (by decide) (mk10 kh) rfl hSt hTb hP hS rfl hl.1 rfl (Nat.le_of_ble_eq_true rfl) dX10_check_40 ⟨Nat.le_refl 0, Nat.le_refl 0⟩ (fun rr_ M_7 H locs hq hP hS => ?_)
          obtain ⟨rfl, hw⟩ := hq
          refine lv_aload_n hx hb dX10_check_43 rfl (lv_at hl 0 rfl) ?_
          refine mw_V (As := []) (rest := []) (T := TX10) (N := 25) (n := 0) ⟨hx, hb, hml, hown, hts⟩ (so_X10_foundSet l G h M_7 _ hw) wm_RX10_195 wi_yX10_foundSet wv_yX10_foundSet wn_RX10 wc_yX10_foundSet (by decide) ⟨Nat.le_of_ble_eq_true rfl, Nat.le_of_ble_eq_true rfl⟩ ⟨rfl, rfl⟩ kh (by decide) (mk10 kh) rfl hSt hTb hP hS rfl hl.1 rfl (Nat.le_of_ble_eq_true rfl) dX10_check_44 ⟨Nat.le_refl 0, Nat.le_refl 0⟩ (fun rr_ M_8 H locs hq hP hS => ?_)
          obtain ⟨r_9, rfl, hw⟩ := hq
          refine mw_Sx (As := [.int r_9]) (rest := []) (n := 1) ⟨hx, hb, hml, hown, hts⟩ (so_X10_bits l G r_9 M_8 _ hw) wm_RX10_173 wt_yX10_bits wn_RX10 wc_yX10_bits (by decide) ⟨Nat.le_of_ble_eq_true rfl, Nat.le_of_ble_eq_true rfl⟩ ⟨rfl, rfl⟩ hSt hTb hP hS rfl hl.1 rfl (Nat.le_of_ble_eq_true rfl) dX10_check_47 ⟨Nat.le_refl 0, Nat.le_refl 0⟩ (fun rr_ M_10 H locs hq hP hS => ?_)
          obtain ⟨r_11, rfl, hw⟩ := hq
          refine lv_aload_n hx hb dX10_check_50 rfl (lv_at hl 0 rfl) ?_
          refine mw_get (ci := 10) (v := .ref (G.1 + (h + 1))) (C := RX10) (T := TX10) (N := 25) hx hb ht inX10 hown hSt hP kh (by decide) (mk10 kh) rfl 0 (by decide) (ht _ wf_RX10_7) rfl rfl dX10_check_51 ?_
          refine lv_bipush (v := 122) hx hb dX10_check_54 (by decide) ?_
          refine lv_iload_n hx hb dX10_check_56 rfl (lv_at hl 2 rfl) ?_
          refine lv_iadd hx hb dX10_check_57 ?_
          obtain ⟨c_12, hw⟩ := hw
          refine mw_iald hx hb hSt hP (ks10_0 kh) (by rw [(ln10_0 kh)]; exact c_12) dX10_check_58 ?_
          refine lv_icmp_ne (tgt := 66) hx hb dX10_check_59 (by decide) (fun c_13 => ?_) (fun c_13 => ?_)
          · have hw := hw.1 c_13
            refine lv_iconst (v := 0) hx hb dX10_check_66 (by decide) ?_
            exact J_67 v2 0 M_10 _ _ _ hw hP hS (lv_sub hl [0, 1, 2] rfl)
          · have hw := hw.2 c_13
            refine lv_iconst (v := 1) hx hb dX10_check_62 (by decide) ?_
            refine lv_goto (tgt := 67) hx hb dX10_check_63 (by decide) ?_
            exact J_67 v2 1 M_10 _ _ _ hw hP hS (lv_sub hl [0, 1, 2] rfl)
  refine lv_aload_n hx hb dX10_check_0 rfl (lv_at hl 0 rfl) ?_
  refine mw_get (ci := 10) (v := .ref (G.1 + (h + 1))) (C := RX10) (T := TX10) (N := 25) hx hb ht inX10 hown hSt hP kh (by decide) (mk10 kh) rfl 0 (by decide) (ht _ wf_RX10_7) rfl rfl dX10_check_1 ?_
  refine lv_iconst (v := 5) hx hb dX10_check_4 (by decide) ?_
  refine mw_ialdc hx hb hSt hP (ks10_0 kh) (ln10_0 kh) 5 (by decide) dX10_check_5 ?_
  refine lv_topi (fun x_15 ex_15 => ?_)
  have hw := hw x_15 ex_15
  refine lv_istore_n (lv' := [(1, .int x_15), (0, .ref (G.1 + h))]) hx hb dX10_check_6 rfl hl (by decide) rfl (fun ls hl => ?_)
  refine lv_aload_n hx hb dX10_check_7 rfl (lv_at hl 1 rfl) ?_
  refine mw_get (ci := 10) (v := .ref (G.1 + (h + 1))) (C := RX10) (T := TX10) (N := 25) hx hb ht inX10 hown hSt hP kh (by decide) (mk10 kh) rfl 0 (by decide) (ht _ wf_RX10_7) rfl rfl dX10_check_8 ?_
  refine lv_iconst (v := 5) hx hb dX10_check_11 (by decide) ?_
  refine lv_iconst (v := 0) hx hb dX10_check_12 (by decide) ?_
  refine mw_iastc hx hb hSt hP hS (ks10_0 kh) (ln10_0 kh) 5 (by decide) dX10_check_13 (fun M_17 H locs eM_17 hP hS => ?_)
  have hw := hw M_17 eM_17
  refine lv_aload_n hx hb dX10_check_14 rfl (lv_at hl 1 rfl) ?_
  refine lv_aload_n hx hb dX10_check_15 rfl (lv_at hl 1 rfl) ?_
  refine mw_get (ci := 10) (v := .ref (G.1 + (h + 1))) (C := RX10) (T := TX10) (N := 25) hx hb ht inX10 hown hSt hP kh (by decide) (mk10 kh) rfl 0 (by decide) (ht _ wf_RX10_7) rfl rfl dX10_check_16 ?_
  refine lv_aload_n hx hb dX10_check_19 rfl (lv_at hl 1 rfl) ?_
  refine mw_get (ci := 10) (v := .ref (G.1 + (h + 3))) (C := RX10) (T := TX10) (N := 25) hx hb ht inX10 hown hSt hP kh (by decide) (mk10 kh) rfl 2 (by decide) (ht _ wf_RX10_16) rfl rfl dX10_check_20 ?_
  refine mw_V (As := [.ref (G.1 + (h + 1)), .ref (G.1 + (h + 3))]) (rest := []) (T := TX10) (N := 25) (n := 2) ⟨hx, hb, hml, hown, hts⟩ (so_X10_moveAll l G h (h + 1) (h + 3) M_17 _ hw) wm_RX10_188 wi_yX10_moveAll wv_yX10_moveAll wn_RX10 wc_yX10_moveAll (by decide) ⟨Nat.le_of_ble_eq_true rfl, Nat.le_of_ble_eq_true rfl⟩ ⟨rfl, rfl⟩ kh (by decide) (mk10 kh) rfl hSt hTb hP hS rfl hl.1 rfl (Nat.le_of_ble_eq_true rfl) dX10_check_23 ⟨Nat.le_refl 0, Nat.le_refl 0⟩ (fun rr_ M_18 H locs hq hP hS => ?_)
  obtain ⟨rfl, hw⟩ := hq
  refine lv_iconst (v := 0) hx hb dX10_check_26 (by decide) ?_
  refine lv_istore_n (lv' := [(2, .int 0), (1, .int x_15), (0, .ref (G.1 + h))]) hx hb dX10_check_27 rfl hl (by decide) rfl (fun ls hl => ?_)
  refine lv_iconst (v := 1) hx hb dX10_check_28 (by decide) ?_
  refine lv_istore_n (lv' := [(3, .int 1), (2, .int 0), (1, .int x_15), (0, .ref (G.1 + h))]) hx hb dX10_check_29 rfl hl (by decide) rfl (fun ls hl => ?_)
  obtain ⟨n_, hw⟩ := hw
  exact L_30 x_15 n_ 0 1 M_18 _ _ _ hw hP hS (lv_sub hl [3, 2, 1, 0] rfl)
def b_X10_lostSet_30 (h : Nat) (Q : Int32 → Mem → Prop) (K4 : Int32 → Int32 → Mem → Prop) (v2 : Int32) (s0 : Int32) (s1 : Int32) (M : Mem) : Prop :=
  ∀ x_1, x_1 = s0 ||| s1 → ∀ x_2 : Int32, x_2 = v2 + 1 → K4 x_1 x_2 M
def B_X10_lostSet_4 (h : Nat) (Q : Int32 → Mem → Prop) (K4 : Int32 → Int32 → Mem → Prop) (v1 : Int32) (v2 : Int32) (M : Mem) : Prop :=
  ((M (h + 1) 2) ≤ v2 → Q v1 M) ∧ (¬ (M (h + 1) 2) ≤ v2 → wp_X10_isLost h v2 M (fun r_6 M_5 => (r_6 = 0 → b_X10_lostSet_30 h Q K4 v2 v1 0 M_5) ∧ (¬ r_6 = 0 → b_X10_lostSet_30 h Q K4 v2 v1 (ish 1 v2) M_5)))
def l_X10_lostSet_4 (h : Nat) (Q : Int32 → Mem → Prop) : Nat → Int32 → Int32 → Mem → Prop
  | 0 => fun _ _ _ => False
  | n + 1 => B_X10_lostSet_4 h Q (l_X10_lostSet_4 h Q n)
def wp_X10_lostSet (h : Nat) (M : Mem) (Q : Int32 → Mem → Prop) : Prop :=
  kdT h = 10 ∧ (∃ n, l_X10_lostSet_4 h Q n 0 0 M)
set_option maxHeartbeats 4000000 in
set_option maxRecDepth 100000 in
theorem so_X10_lostSet (l : Launch) (G : Gm) (h : Nat) (M : Mem) (Q : Int32 → Mem → Prop) (hw : wp_X10_lostSet h M Q) : Ct l G yX10_lostSet cX10_lostSet 3 (some .int) ({ frames := 2, cells := 0, slots := 0, locals := 43 } : Room) [.ref (G.1 + h)] M (Qi Q) := by
  unfold wp_X10_lostSet at hw
  obtain ⟨kh, hw⟩ := hw
  refine ct_of (by decide) (Nat.le_of_ble_eq_true rfl) ?_
  intro p e s m below meth c E_ ls H hl hP hS
  obtain ⟨hx, hb, hml, hown, hts, ht, hr, hlocks, hSt, hTb⟩ := E_
  have hl : lv_has ls 3 [(0, .ref (G.1 + h))] := hl
  have L_4 : ∀ (n4 : Nat) (v1 : Int32) (v2 : Int32) (M : Mem) (H : Heap) (locs : List Loc) (ls : Array Slot), l_X10_lostSet_4 h Q n4 v1 v2 M → va_P G.2.1 clsA (wl G M) H → va_S (inW G) s.heap H locs → lv_has ls 3 [(0, .ref (G.1 + h)), (1, .int v1), (2, .int v2)] → W p l e ({ frames := 2, cells := 0, slots := 0, locals := 43 } : Room) s m ([.ref (G.1 + h)] : List Value).toArray below meth c H locs 0 0 (MQ below (Pq G (Qi Q)) ([.ref (G.1 + h)] : List Value).toArray s 0 0 (inW G)) (F0 m 4 ls []) := by
    intro   n4
    induction n4 with
    | zero => intro v1 v2 M H locs ls  hw hP hS hl; exact False.elim hw
    | succ n4 ih4 =>
      have J_30 : ∀ (v2 : Int32) (s0 : Int32) (s1 : Int32) (M : Mem) (H : Heap) (locs : List Loc) (ls : Array Slot), b_X10_lostSet_30 h Q (l_X10_lostSet_4 h Q n4) v2 s0 s1 M → va_P G.2.1 clsA (wl G M) H → va_S (inW G) s.heap H locs → lv_has ls 3 [(0, .ref (G.1 + h)), (2, .int v2)] → W p l e ({ frames := 2, cells := 0, slots := 0, locals := 43 } : Room) s m ([.ref (G.1 + h)] : List Value).toArray below meth c H locs 0 0 (MQ below (Pq G (Qi Q)) ([.ref (G.1 + h)] : List Value).toArray s 0 0 (inW G)) (F0 m 30 ls [.int s1, .int s0]) := by
        intro v2 s0 s1 M H locs ls  hw hP hS hl
        unfold b_X10_lostSet_30 at hw
        refine lv_ior hx hb dX10_lostSet_30 ?_
        refine lv_topi (fun x_1 ex_1 => ?_)
        have hw := hw x_1 ex_1
        refine lv_istore_n (lv' := [(1, .int x_1), (0, .ref (G.1 + h)), (2, .int v2)]) hx hb dX10_lostSet_31 rfl hl (by decide) rfl (fun ls hl => ?_)
        obtain ⟨x_2, ex_2⟩ : ∃ z : Int32, z = v2 + 1 := ⟨_, rfl⟩
        have hw := hw x_2 ex_2
        refine lv_iinc (v := x_2) (lv' := [(2, .int x_2), (1, .int x_1), (0, .ref (G.1 + h))]) hx hb dX10_lostSet_32 hl (k := 2) rfl (by rw [ex_2]; rfl) (by decide) rfl (fun ls hl => ?_)
        refine lv_goto (tgt := 4) hx hb dX10_lostSet_35 (by decide) ?_
        exact ih4 x_1 x_2 M _ _ _ hw hP hS (lv_sub hl [2, 1, 0] rfl)
      intro v1 v2 M H locs ls  hw hP hS hl
      have hw : B_X10_lostSet_4 h Q (l_X10_lostSet_4 h Q n4) v1 v2 M := hw
      unfold B_X10_lostSet_4 at hw
      refine lv_iload_n hx hb dX10_lostSet_4 rfl (lv_at hl 2 rfl) ?_
      refine lv_aload_n hx hb dX10_lostSet_5 rfl (lv_at hl 0 rfl) ?_
      refine mw_get (ci := 10) (v := .ref (G.1 + (h + 1))) (C := RX10) (T := TX10) (N := 25) hx hb ht inX10 hown hSt hP kh (by decide) (mk10 kh) rfl 0 (by decide) (ht _ wf_RX10_7) rfl rfl dX10_lostSet_6 ?_
      refine lv_iconst (v := 2) hx hb dX10_lostSet_9 (by decide) ?_
      refine mw_ialdc hx hb hSt hP (ks10_0 kh) (ln10_0 kh) 2 (by decide) dX10_lostSet_10 ?_
      refine lv_icmp_ge (tgt := 38) hx hb dX10_lostSet_11 (by decide) (fun c_4 => ?_) (fun c_4 => ?_)
      · have hw := hw.1 c_4
        refine lv_iload_n hx hb dX10_lostSet_38 rfl (lv_at hl 1 rfl) ?_
        exact W.iret hx hb hr (mw_end hP hSt hTb hS ⟨_, rfl, hw⟩) hS.2.2 dX10_lostSet_39
      · have hw := hw.2 c_4
        refine lv_iload_n hx hb dX10_lostSet_14 rfl (lv_at hl 1 rfl) ?_
        refine lv_aload_n hx hb dX10_lostSet_15 rfl (lv_at hl 0 rfl) ?_
        refine lv_iload_n hx hb dX10_lostSet_16 rfl (lv_at hl 2 rfl) ?_
        refine mw_V (As := [.int v2]) (rest := [.int v1]) (T := TX10) (N := 25) (n := 1) ⟨hx, hb, hml, hown, hts⟩ (so_X10_isLost l G h v2 M _ hw) wm_RX10_179 wi_yX10_isLost wv_yX10_isLost wn_RX10 wc_yX10_isLost (by decide) ⟨Nat.le_of_ble_eq_true rfl, Nat.le_of_ble_eq_true rfl⟩ ⟨rfl, rfl⟩ kh (by decide) (mk10 kh) rfl hSt hTb hP hS rfl hl.1 rfl (Nat.le_of_ble_eq_true rfl) dX10_lostSet_17 ⟨Nat.le_refl 0, Nat.le_refl 0⟩ (fun rr_ M_5 H locs hq hP hS => ?_)
        obtain ⟨r_6, rfl, hw⟩ := hq
        refine lv_if_eq (tgt := 29) hx hb dX10_lostSet_20 (by decide) (fun c_7 => ?_) (fun c_7 => ?_)
        · have hw := hw.1 c_7
          refine lv_iconst (v := 0) hx hb dX10_lostSet_29 (by decide) ?_
          exact J_30 v2 v1 0 M_5 _ _ _ hw hP hS (lv_sub hl [0, 2] rfl)
        · have hw := hw.2 c_7
          refine lv_iconst (v := 1) hx hb dX10_lostSet_23 (by decide) ?_
          refine lv_iload_n hx hb dX10_lostSet_24 rfl (lv_at hl 2 rfl) ?_
          refine lv_ishl hx hb dX10_lostSet_25 ?_
          refine lv_goto (tgt := 30) hx hb dX10_lostSet_26 (by decide) ?_
          exact J_30 v2 v1 (ish 1 v2) M_5 _ _ _ hw hP hS (lv_sub hl [0, 2] rfl)
  refine lv_iconst (v := 0) hx hb dX10_lostSet_0 (by decide) ?_
  refine lv_istore_n (lv' := [(1, .int 0), (0, .ref (G.1 + h))]) hx hb dX10_lostSet_1 rfl hl (by decide) rfl (fun ls hl => ?_)
  refine lv_iconst (v := 0) hx hb dX10_lostSet_2 (by decide) ?_
  refine lv_istore_n (lv' := [(2, .int 0), (1, .int 0), (0, .ref (G.1 + h))]) hx hb dX10_lostSet_3 rfl hl (by decide) rfl (fun ls hl => ?_)
  obtain ⟨n_, hw⟩ := hw
  exact L_4 n_ 0 0 M _ _ _ hw hP hS (lv_sub hl [2, 1, 0] rfl)
def B_X10_snowOfAll_4 (h : Nat) (Q : Int32 → Mem → Prop) (K4 : Int32 → Int32 → Mem → Prop) (v1 : Int32) (v2 : Int32) (M : Mem) : Prop :=
  (10 ≤ v2 → Q v1 M) ∧ (¬ 10 ≤ v2 → vp_in (8 + v2) 242 ∧ (∀ x_3, x_3 = v1 + (M (h + 1) (8 + v2).toNatClampNeg) → ∀ x_4 : Int32, x_4 = v2 + 1 → K4 x_3 x_4 M))
def l_X10_snowOfAll_4 (h : Nat) (Q : Int32 → Mem → Prop) : Nat → Int32 → Int32 → Mem → Prop
  | 0 => fun _ _ _ => False
  | n + 1 => B_X10_snowOfAll_4 h Q (l_X10_snowOfAll_4 h Q n)
def wp_X10_snowOfAll (h : Nat) (M : Mem) (Q : Int32 → Mem → Prop) : Prop :=
  kdT h = 10 ∧ (∃ n, l_X10_snowOfAll_4 h Q n 0 0 M)
set_option maxHeartbeats 4000000 in
set_option maxRecDepth 100000 in
theorem so_X10_snowOfAll (l : Launch) (G : Gm) (h : Nat) (M : Mem) (Q : Int32 → Mem → Prop) (hw : wp_X10_snowOfAll h M Q) : Ct l G yX10_snowOfAll cX10_snowOfAll 3 (some .int) ({ frames := 0, cells := 0, slots := 0, locals := 0 } : Room) [.ref (G.1 + h)] M (Qi Q) := by
  unfold wp_X10_snowOfAll at hw
  obtain ⟨kh, hw⟩ := hw
  refine ct_of (by decide) (Nat.le_of_ble_eq_true rfl) ?_
  intro p e s m below meth c E_ ls H hl hP hS
  obtain ⟨hx, hb, hml, hown, hts, ht, hr, hlocks, hSt, hTb⟩ := E_
  have hl : lv_has ls 3 [(0, .ref (G.1 + h))] := hl
  have L_4 : ∀ (n4 : Nat) (v1 : Int32) (v2 : Int32) (M : Mem) (H : Heap) (locs : List Loc) (ls : Array Slot), l_X10_snowOfAll_4 h Q n4 v1 v2 M → va_P G.2.1 clsA (wl G M) H → va_S (inW G) s.heap H locs → lv_has ls 3 [(0, .ref (G.1 + h)), (1, .int v1), (2, .int v2)] → W p l e ({ frames := 0, cells := 0, slots := 0, locals := 0 } : Room) s m ([.ref (G.1 + h)] : List Value).toArray below meth c H locs 0 0 (MQ below (Pq G (Qi Q)) ([.ref (G.1 + h)] : List Value).toArray s 0 0 (inW G)) (F0 m 4 ls []) := by
    intro   n4
    induction n4 with
    | zero => intro v1 v2 M H locs ls  hw hP hS hl; exact False.elim hw
    | succ n4 ih4 =>
      intro v1 v2 M H locs ls  hw hP hS hl
      have hw : B_X10_snowOfAll_4 h Q (l_X10_snowOfAll_4 h Q n4) v1 v2 M := hw
      unfold B_X10_snowOfAll_4 at hw
      refine lv_iload_n hx hb dX10_snowOfAll_4 rfl (lv_at hl 2 rfl) ?_
      refine lv_bipush (v := 10) hx hb dX10_snowOfAll_5 (by decide) ?_
      refine lv_icmp_ge (tgt := 28) hx hb dX10_snowOfAll_7 (by decide) (fun c_1 => ?_) (fun c_1 => ?_)
      · have hw := hw.1 c_1
        refine lv_iload_n hx hb dX10_snowOfAll_28 rfl (lv_at hl 1 rfl) ?_
        exact W.iret hx hb hr (mw_end hP hSt hTb hS ⟨_, rfl, hw⟩) hS.2.2 dX10_snowOfAll_29
      · have hw := hw.2 c_1
        refine lv_iload_n hx hb dX10_snowOfAll_10 rfl (lv_at hl 1 rfl) ?_
        refine lv_aload_n hx hb dX10_snowOfAll_11 rfl (lv_at hl 0 rfl) ?_
        refine mw_get (ci := 10) (v := .ref (G.1 + (h + 1))) (C := RX10) (T := TX10) (N := 25) hx hb ht inX10 hown hSt hP kh (by decide) (mk10 kh) rfl 0 (by decide) (ht _ wf_RX10_7) rfl rfl dX10_snowOfAll_12 ?_
        refine lv_bipush (v := 8) hx hb dX10_snowOfAll_15 (by decide) ?_
        refine lv_iload_n hx hb dX10_snowOfAll_17 rfl (lv_at hl 2 rfl) ?_
        refine lv_iadd hx hb dX10_snowOfAll_18 ?_
        obtain ⟨c_2, hw⟩ := hw
        refine mw_iald hx hb hSt hP (ks10_0 kh) (by rw [(ln10_0 kh)]; exact c_2) dX10_snowOfAll_19 ?_
        refine lv_iadd hx hb dX10_snowOfAll_20 ?_
        refine lv_topi (fun x_3 ex_3 => ?_)
        have hw := hw x_3 ex_3
        refine lv_istore_n (lv' := [(1, .int x_3), (0, .ref (G.1 + h)), (2, .int v2)]) hx hb dX10_snowOfAll_21 rfl hl (by decide) rfl (fun ls hl => ?_)
        obtain ⟨x_4, ex_4⟩ : ∃ z : Int32, z = v2 + 1 := ⟨_, rfl⟩
        have hw := hw x_4 ex_4
        refine lv_iinc (v := x_4) (lv' := [(2, .int x_4), (1, .int x_3), (0, .ref (G.1 + h))]) hx hb dX10_snowOfAll_22 hl (k := 2) rfl (by rw [ex_4]; rfl) (by decide) rfl (fun ls hl => ?_)
        refine lv_goto (tgt := 4) hx hb dX10_snowOfAll_25 (by decide) ?_
        exact ih4 x_3 x_4 M _ _ _ hw hP hS (lv_sub hl [2, 1, 0] rfl)
  refine lv_iconst (v := 0) hx hb dX10_snowOfAll_0 (by decide) ?_
  refine lv_istore_n (lv' := [(1, .int 0), (0, .ref (G.1 + h))]) hx hb dX10_snowOfAll_1 rfl hl (by decide) rfl (fun ls hl => ?_)
  refine lv_iconst (v := 0) hx hb dX10_snowOfAll_2 (by decide) ?_
  refine lv_istore_n (lv' := [(2, .int 0), (1, .int 0), (0, .ref (G.1 + h))]) hx hb dX10_snowOfAll_3 rfl hl (by decide) rfl (fun ls hl => ?_)
  obtain ⟨n_, hw⟩ := hw
  exact L_4 n_ 0 0 M _ _ _ hw hP hS (lv_sub hl [2, 1, 0] rfl)
def wp_X10_count (h : Nat) (a1 : Int32) (M : Mem) (Q : Int32 → Mem → Prop) : Prop :=
  kdT h = 10 ∧ ((a1 = 0 → Q (M (h + 1) 3) M) ∧ (a1 = 1 → Q (M (h + 1) 2) M) ∧ (a1 = 2 → Q (M (h + 1) 0) M) ∧ (a1 = 3 → wp_X10_snowOfAll h M (fun r_9 M_8 => Q r_9 M_8)) ∧ (a1 = 4 → wp_X10_foundSet h M (fun r_12 M_11 => Q r_12 M_11)) ∧ (a1 = 5 → wp_X10_lostSet h M (fun r_15 M_14 => Q r_15 M_14)) ∧ (a1 = 6 → Q (M (h + 1) 4) M) ∧ (a1 = 7 → Q (M (h + 1) 5) M) ∧ (a1 = 8 → Q (M h 21) M) ∧ (a1 = 9 → Q (M (h + 1) 1) M) ∧ (¬ a1 = 0 → ¬ a1 = 1 → ¬ a1 = 2 → ¬ a1 = 3 → ¬ a1 = 4 → ¬ a1 = 5 → ¬ a1 = 6 → ¬ a1 = 7 → ¬ a1 = 8 → ¬ a1 = 9 → wp_X10_errs h (-1000000001) M (fun r_24 M_23 => Q r_24 M_23)))
set_option maxHeartbeats 4000000 in
set_option maxRecDepth 100000 in
theorem so_X10_count (l : Launch) (G : Gm) (h : Nat) (a1 : Int32) (M : Mem) (Q : Int32 → Mem → Prop) (hw : wp_X10_count h a1 M Q) : Ct l G yX10_count cX10_count 2 (some .int) ({ frames := 3, cells := 0, slots := 0, locals := 65 } : Room) [.ref (G.1 + h), .int a1] M (Qi Q) := by
  unfold wp_X10_count at hw
  obtain ⟨kh, hw⟩ := hw
  refine ct_of (by decide) (Nat.le_of_ble_eq_true rfl) ?_
  intro p e s m below meth c E_ ls H hl hP hS
  obtain ⟨hx, hb, hml, hown, hts, ht, hr, hlocks, hSt, hTb⟩ := E_
  have hl : lv_has ls 2 [(0, .ref (G.1 + h)), (1, .int a1)] := hl
  refine lv_iload_n hx hb dX10_count_0 rfl (lv_at hl 1 rfl) ?_
  by_cases c_1 : a1 = 0
  · have hw := hw.1 c_1
    refine mw_tcase (tgt := 56) (off := 55) hx hb dX10_count_1 c_1 (by decide) ?_
    refine lv_aload_n hx hb dX10_count_56 rfl (lv_at hl 0 rfl) ?_
    refine mw_get (ci := 10) (v := .ref (G.1 + (h + 1))) (C := RX10) (T := TX10) (N := 25) hx hb ht inX10 hown hSt hP kh (by decide) (mk10 kh) rfl 0 (by decide) (ht _ wf_RX10_7) rfl rfl dX10_count_57 ?_
    refine lv_iconst (v := 3) hx hb dX10_count_60 (by decide) ?_
    refine mw_ialdc hx hb hSt hP (ks10_0 kh) (ln10_0 kh) 3 (by decide) dX10_count_61 ?_
    exact W.iret hx hb hr (mw_end hP hSt hTb hS ⟨_, rfl, hw⟩) hS.2.2 dX10_count_62
  by_cases c_3 : a1 = 1
  · have hw := hw.2.1 c_3
    refine mw_tcase (tgt := 63) (off := 62) hx hb dX10_count_1 c_3 (by decide) ?_
    refine lv_aload_n hx hb dX10_count_63 rfl (lv_at hl 0 rfl) ?_
    refine mw_get (ci := 10) (v := .ref (G.1 + (h + 1))) (C := RX10) (T := TX10) (N := 25) hx hb ht inX10 hown hSt hP kh (by decide) (mk10 kh) rfl 0 (by decide) (ht _ wf_RX10_7) rfl rfl dX10_count_64 ?_
    refine lv_iconst (v := 2) hx hb dX10_count_67 (by decide) ?_
    refine mw_ialdc hx hb hSt hP (ks10_0 kh) (ln10_0 kh) 2 (by decide) dX10_count_68 ?_
    exact W.iret hx hb hr (mw_end hP hSt hTb hS ⟨_, rfl, hw⟩) hS.2.2 dX10_count_69
  by_cases c_5 : a1 = 2
  · have hw := hw.2.2.1 c_5
    refine mw_tcase (tgt := 70) (off := 69) hx hb dX10_count_1 c_5 (by decide) ?_
    refine lv_aload_n hx hb dX10_count_70 rfl (lv_at hl 0 rfl) ?_
    refine mw_get (ci := 10) (v := .ref (G.1 + (h + 1))) (C := RX10) (T := TX10) (N := 25) hx hb ht inX10 hown hSt hP kh (by decide) (mk10 kh) rfl 0 (by decide) (ht _ wf_RX10_7) rfl rfl dX10_count_71 ?_
    refine lv_iconst (v := 0) hx hb dX10_count_74 (by decide) ?_
    refine mw_ialdc hx hb hSt hP (ks10_0 kh) (ln10_0 kh) 0 (by decide) dX10_count_75 ?_
    exact W.iret hx hb hr (mw_end hP hSt hTb hS ⟨_, rfl, hw⟩) hS.2.2 dX10_count_76
  by_cases c_7 : a1 = 3
  · have hw := hw.2.2.2.1 c_7
    refine mw_tcase (tgt := 77) (off := 76) hx hb dX10_count_1 c_7 (by decide) ?_
    refine lv_aload_n hx hb dX10_count_77 rfl (lv_at hl 0 rfl) ?_
    refine mw_V (As := []) (rest := []) (T := TX10) (N := 25) (n := 0) ⟨hx, hb, hml, hown, hts⟩ (so_X10_snowOfAll l G h M _ hw) wm_RX10_253 wi_yX10_snowOfAll wv_yX10_snowOfAll wn_RX10 wc_yX10_snowOfAll (by decide) ⟨Nat.le_of_ble_eq_true rfl, Nat.le_of_ble_eq_true rfl⟩ ⟨rfl, rfl⟩ kh (by decide) (mk10 kh) rfl hSt hTb hP hS rfl hl.1 rfl (Nat.le_of_ble_eq_true rfl) dX10_count_78 ⟨Nat.le_refl 0, Nat.le_refl 0⟩ (fun rr_ M_8 H locs hq hP hS => ?_)
    obtain ⟨r_9, rfl, hw⟩ := hq
    exact W.iret hx hb hr (mw_end hP hSt hTb hS ⟨_, rfl, hw⟩) hS.2.2 dX10_count_81
  by_cases c_10 : a1 = 4
  · have hw := hw.2.2.2.2.1 c_10
    refine mw_tcase (tgt := 82) (off := 81) hx hb dX10_count_1 c_10 (by decide) ?_
    refine lv_aload_n hx hb dX10_count_82 rfl (lv_at hl 0 rfl) ?_
    refine mw_V (As := []) (rest := []) (T := TX10) (N := 25) (n := 0) ⟨hx, hb, hml, hown, hts⟩ (so_X10_foundSet l G h M _ hw) wm_RX10_195 wi_yX10_foundSet wv_yX10_foundSet wn_RX10 wc_yX10_foundSet (by decide) ⟨Nat.le_of_ble_eq_true rfl, Nat.le_of_ble_eq_true rfl⟩ ⟨rfl, rfl⟩ kh (by decide) (mk10 kh) rfl hSt hTb hP hS rfl hl.1 rfl (Nat.le_of_ble_eq_true rfl) dX10_count_83 ⟨Nat.le_refl 0, Nat.le_refl 0⟩ (fun rr_ M_11 H locs hq hP hS => ?_)
    obtain ⟨r_12, rfl, hw⟩ := hq
    exact W.iret hx hb hr (mw_end hP hSt hTb hS ⟨_, rfl, hw⟩) hS.2.2 dX10_count_86
  by_cases c_13 : a1 = 5
  · have hw := hw.2.2.2.2.2.1 c_13
    refine mw_tcase (tgt := 87) (off := 86) hx hb dX10_count_1 c_13 (by decide) ?_
    refine lv_aload_n hx hb dX10_count_87 rfl (lv_at hl 0 rfl) ?_
    refine mw_V (As := []) (rest := []) (T := TX10) (N := 25) (n := 0) ⟨hx, hb, hml, hown, hts⟩ (so_X10_lostSet l G h M _ hw) wm_RX10_256 wi_yX10_lostSet wv_yX10_lostSet wn_RX10 wc_yX10_lostSet (by decide) ⟨Nat.le_of_ble_eq_true rfl, Nat.le_of_ble_eq_true rfl⟩ ⟨rfl, rfl⟩ kh (by decide) (mk10 kh) rfl hSt hTb hP hS rfl hl.1 rfl (Nat.le_of_ble_eq_true rfl) dX10_count_88 ⟨Nat.le_refl 0, Nat.le_refl 0⟩ (fun rr_ M_14 H locs hq hP hS => ?_)
    obtain ⟨r_15, rfl, hw⟩ := hq
    exact W.iret hx hb hr (mw_end hP hSt hTb hS ⟨_, rfl, hw⟩) hS.2.2 dX10_count_91
  by_cases c_16 : a1 = 6
  · have hw := hw.2.2.2.2.2.2.1 c_16
    refine mw_tcase (tgt := 92) (off := 91) hx hb dX10_count_1 c_16 (by decide) ?_
    refine lv_aload_n hx hb dX10_count_92 rfl (lv_at hl 0 rfl) ?_
    refine mw_get (ci := 10) (v := .ref (G.1 + (h + 1))) (C := RX10) (T := TX10) (N := 25) hx hb ht inX10 hown hSt hP kh (by decide) (mk10 kh) rfl 0 (by decide) (ht _ wf_RX10_7) rfl rfl dX10_count_93 ?_
    refine lv_iconst (v := 4) hx hb dX10_count_96 (by decide) ?_
    refine mw_ialdc hx hb hSt hP (ks10_0 kh) (ln10_0 kh) 4 (by decide) dX10_count_97 ?_
    exact W.iret hx hb hr (mw_end hP hSt hTb hS ⟨_, rfl, hw⟩) hS.2.2 dX10_count_98
  by_cases c_18 : a1 = 7
  · have hw := hw.2.2.2.2.2.2.2.1 c_18
    refine mw_tcase (tgt := 99) (off := 98) hx hb dX10_count_1 c_18 (by decide) ?_
    refine lv_aload_n hx hb dX10_count_99 rfl (lv_at hl 0 rfl) ?_
    refine mw_get (ci := 10) (v := .ref (G.1 + (h + 1))) (C := RX10) (T := TX10) (N := 25) hx hb ht inX10 hown hSt hP kh (by decide) (mk10 kh) rfl 0 (by decide) (ht _ wf_RX10_7) rfl rfl dX10_count_100 ?_
    refine lv_iconst (v := 5) hx hb dX10_count_103 (by decide) ?_
    refine mw_ialdc hx hb hSt hP (ks10_0 kh) (ln10_0 kh) 5 (by decide) dX10_count_104 ?_
    exact W.iret hx hb hr (mw_end hP hSt hTb hS ⟨_, rfl, hw⟩) hS.2.2 dX10_count_105
  by_cases c_20 : a1 = 8
  · have hw := hw.2.2.2.2.2.2.2.2.1 c_20
    refine mw_tcase (tgt := 106) (off := 105) hx hb dX10_count_1 c_20 (by decide) ?_
    refine lv_aload_n hx hb dX10_count_106 rfl (lv_at hl 0 rfl) ?_
    refine mw_get (ci := 10) (v := .int (M h 21)) (C := RX10) (T := TX10) (N := 25) hx hb ht inX10 hown hSt hP kh (by decide) (mk10 kh) rfl 21 (by decide) (ht _ wf_RX10_217) rfl rfl dX10_count_107 ?_
    exact W.iret hx hb hr (mw_end hP hSt hTb hS ⟨_, rfl, hw⟩) hS.2.2 dX10_count_110
  by_cases c_21 : a1 = 9
  · have hw := hw.2.2.2.2.2.2.2.2.2.1 c_21
    refine mw_tcase (tgt := 111) (off := 110) hx hb dX10_count_1 c_21 (by decide) ?_
    refine lv_aload_n hx hb dX10_count_111 rfl (lv_at hl 0 rfl) ?_
    refine mw_get (ci := 10) (v := .ref (G.1 + (h + 1))) (C := RX10) (T := TX10) (N := 25) hx hb ht inX10 hown hSt hP kh (by decide) (mk10 kh) rfl 0 (by decide) (ht _ wf_RX10_7) rfl rfl dX10_count_112 ?_
    refine lv_iconst (v := 1) hx hb dX10_count_115 (by decide) ?_
    refine mw_ialdc hx hb hSt hP (ks10_0 kh) (ln10_0 kh) 1 (by decide) dX10_count_116 ?_
    exact W.iret hx hb hr (mw_end hP hSt hTb hS ⟨_, rfl, hw⟩) hS.2.2 dX10_count_117
  have hw := hw.2.2.2.2.2.2.2.2.2.2 c_1 c_3 c_5 c_7 c_10 c_13 c_16 c_18 c_20 c_21
  refine mw_tdef (keys := [0, 1, 2, 3, 4, 5, 6, 7, 8, 9]) (tgt := 118) hx hb dX10_count_1 (List.forall_mem_cons.mpr ⟨c_1, (List.forall_mem_cons.mpr ⟨c_3, (List.forall_mem_cons.mpr ⟨c_5, (List.forall_mem_cons.mpr ⟨c_7, (List.forall_mem_cons.mpr ⟨c_10, (List.forall_mem_cons.mpr ⟨c_13, (List.forall_mem_cons.mpr ⟨c_16, (List.forall_mem_cons.mpr ⟨c_18, (List.forall_mem_cons.mpr ⟨c_20, (List.forall_mem_cons.mpr ⟨c_21, (fun _ h_ => absurd h_ List.not_mem_nil)⟩)⟩)⟩)⟩)⟩)⟩)⟩)⟩)⟩)⟩) (by decide) (by decide) ?_
  refine lv_aload_n hx hb dX10_count_118 rfl (lv_at hl 0 rfl) ?_
  refine lv_ldc (v := (-1000000001)) hx hb hown (ht _ wk_RX10_62) dX10_count_119 ?_
  refine mw_V (As := [.int (-1000000001)]) (rest := []) (T := TX10) (N := 25) (n := 1) ⟨hx, hb, hml, hown, hts⟩ (so_X10_errs l G h (-1000000001) M _ hw) wm_RX10_63 wi_yX10_errs wv_yX10_errs wn_RX10 wc_yX10_errs (by decide) ⟨Nat.le_of_ble_eq_true rfl, Nat.le_of_ble_eq_true rfl⟩ ⟨rfl, rfl⟩ kh (by decide) (mk10 kh) rfl hSt hTb hP hS rfl hl.1 rfl (Nat.le_of_ble_eq_true rfl) dX10_count_121 ⟨Nat.le_refl 0, Nat.le_refl 0⟩ (fun rr_ M_23 H locs hq hP hS => ?_)
  obtain ⟨r_24, rfl, hw⟩ := hq
  exact W.iret hx hb hr (mw_end hP hSt hTb hS ⟨_, rfl, hw⟩) hS.2.2 dX10_count_124
def wp_X10_told (h : Nat) (a1 : Int32) (M : Mem) (Q : Int32 → Mem → Prop) : Prop :=
  kdT h = 10 ∧ (wp_X10_in a1 1 5 M (fun r_2 M_1 => (r_2 = 0 → wp_X10_errs h (-1000000001) M_1 (fun r_5 M_4 => Q r_5 M_4)) ∧ (¬ r_2 = 0 → vp_in a1 6 ∧ (Q (M_1 (h + 4) a1.toNatClampNeg) M_1))))
set_option maxHeartbeats 4000000 in
set_option maxRecDepth 100000 in
theorem so_X10_told (l : Launch) (G : Gm) (h : Nat) (a1 : Int32) (M : Mem) (Q : Int32 → Mem → Prop) (hw : wp_X10_told h a1 M Q) : Ct l G yX10_told cX10_told 2 (some .int) ({ frames := 1, cells := 0, slots := 0, locals := 22 } : Room) [.ref (G.1 + h), .int a1] M (Qi Q) := by
  unfold wp_X10_told at hw
  obtain ⟨kh, hw⟩ := hw
  refine ct_of (by decide) (Nat.le_of_ble_eq_true rfl) ?_
  intro p e s m below meth c E_ ls H hl hP hS
  obtain ⟨hx, hb, hml, hown, hts, ht, hr, hlocks, hSt, hTb⟩ := E_
  have hl : lv_has ls 2 [(0, .ref (G.1 + h)), (1, .int a1)] := hl
  refine lv_iload_n hx hb dX10_told_0 rfl (lv_at hl 1 rfl) ?_
  refine lv_iconst (v := 1) hx hb dX10_told_1 (by decide) ?_
  refine lv_iconst (v := 5) hx hb dX10_told_2 (by decide) ?_
  refine mw_Sx (As := [.int a1, .int 1, .int 5]) (rest := []) (n := 3) ⟨hx, hb, hml, hown, hts⟩ (so_X10_in l G a1 1 5 M _ hw) wm_RX10_50 wt_yX10_in wn_RX10 wc_yX10_in (by decide) ⟨Nat.le_of_ble_eq_true rfl, Nat.le_of_ble_eq_true rfl⟩ ⟨rfl, rfl⟩ hSt hTb hP hS rfl hl.1 rfl (Nat.le_of_ble_eq_true rfl) dX10_told_3 ⟨Nat.le_refl 0, Nat.le_refl 0⟩ (fun rr_ M_1 H locs hq hP hS => ?_)
  obtain ⟨r_2, rfl, hw⟩ := hq
  refine lv_if_eq (tgt := 18) hx hb dX10_told_6 (by decide) (fun c_3 => ?_) (fun c_3 => ?_)
  · have hw := hw.1 c_3
    refine lv_aload_n hx hb dX10_told_18 rfl (lv_at hl 0 rfl) ?_
    refine lv_ldc (v := (-1000000001)) hx hb hown (ht _ wk_RX10_62) dX10_told_19 ?_
    refine mw_V (As := [.int (-1000000001)]) (rest := []) (T := TX10) (N := 25) (n := 1) ⟨hx, hb, hml, hown, hts⟩ (so_X10_errs l G h (-1000000001) M_1 _ hw) wm_RX10_63 wi_yX10_errs wv_yX10_errs wn_RX10 wc_yX10_errs (by decide) ⟨Nat.le_of_ble_eq_true rfl, Nat.le_of_ble_eq_true rfl⟩ ⟨rfl, rfl⟩ kh (by decide) (mk10 kh) rfl hSt hTb hP hS rfl hl.1 rfl (Nat.le_of_ble_eq_true rfl) dX10_told_21 ⟨Nat.le_refl 0, Nat.le_refl 0⟩ (fun rr_ M_4 H locs hq hP hS => ?_)
    obtain ⟨r_5, rfl, hw⟩ := hq
    exact W.iret hx hb hr (mw_end hP hSt hTb hS ⟨_, rfl, hw⟩) hS.2.2 dX10_told_24
  · have hw := hw.2 c_3
    refine lv_aload_n hx hb dX10_told_9 rfl (lv_at hl 0 rfl) ?_
    refine mw_get (ci := 10) (v := .ref (G.1 + (h + 4))) (C := RX10) (T := TX10) (N := 25) hx hb ht inX10 hown hSt hP kh (by decide) (mk10 kh) rfl 5 (by decide) (ht _ wf_RX10_19) rfl rfl dX10_told_10 ?_
    refine lv_iload_n hx hb dX10_told_13 rfl (lv_at hl 1 rfl) ?_
    obtain ⟨c_6, hw⟩ := hw
    refine mw_iald hx hb hSt hP (ks10_5 kh) (by rw [(ln10_5 kh)]; exact c_6) dX10_told_14 ?_
    refine lv_goto (tgt := 24) hx hb dX10_told_15 (by decide) ?_
    exact W.iret hx hb hr (mw_end hP hSt hTb hS ⟨_, rfl, hw⟩) hS.2.2 dX10_told_24
