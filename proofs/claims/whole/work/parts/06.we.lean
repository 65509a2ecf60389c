def wp_X9_saved (h : Nat) (M : Mem) (Q : Int32 → Mem → Prop) : Prop :=
  kdT h = 9 ∧ (wp_X9_thinkFromNow h M (fun M_1 => wp_X1_passHours (h + 69) 60 M_1 (fun M_2 => wp_X1_foundSet (h + 69) M_2 (fun r_4 M_3 => Q r_4 M_3))))
set_option maxHeartbeats 4000000 in
set_option maxRecDepth 100000 in
theorem so_X9_saved (l : Launch) (G : Gm) (h : Nat) (M : Mem) (Q : Int32 → Mem → Prop) (hw : wp_X9_saved h M Q) : Ct l G yX9_saved cX9_saved 1 (some .int) ({ frames := 6, cells := 0, slots := 0, locals := 167 } : Room) [.ref (G.1 + h)] M (Qi Q) := by
  unfold wp_X9_saved at hw
  obtain ⟨kh, hw⟩ := hw
  refine ct_of (by decide) (Nat.le_of_ble_eq_true rfl) ?_
  intro p e s m below meth c E_ ls H hl hP hS
  obtain ⟨hx, hb, hml, hown, hts, ht, hr, hlocks, hSt, hTb⟩ := E_
  have hl : lv_has ls 1 [(0, .ref (G.1 + h))] := hl
  refine lv_aload_n hx hb dX9_saved_0 rfl (lv_at hl 0 rfl) ?_
  refine mw_V (As := []) (rest := []) (T := TX9) (N := 8) (n := 0) ⟨hx, hb, hml, hown, hts⟩ (so_X9_thinkFromNow l G h M _ hw) wm_RX9_200 wi_yX9_thinkFromNow wv_yX9_thinkFromNow wn_RX9 wc_yX9_thinkFromNow (by decide) ⟨Nat.le_of_ble_eq_true rfl, Nat.le_of_ble_eq_true rfl⟩ ⟨rfl, rfl⟩ kh (by decide) (mk9 kh) rfl hSt hTb hP hS rfl hl.1 rfl (Nat.le_of_ble_eq_true rfl) dX9_saved_1 ⟨Nat.le_refl 0, Nat.le_refl 0⟩ (fun rr_ M_1 H locs hq hP hS => ?_)
  obtain ⟨rfl, hw⟩ := hq
  refine lv_aload_n hx hb dX9_saved_4 rfl (lv_at hl 0 rfl) ?_
  refine mw_get (ci := 9) (v := .ref (G.1 + (h + 69))) (C := RX9) (T := TX9) (N := 8) hx hb ht inX9 hown hSt hP kh (by decide) (mk9 kh) rfl 2 (by decide) (ht _ wf_RX9_22) rfl rfl dX9_saved_5 ?_
  refine lv_bipush (v := 60) hx hb dX9_saved_8 (by decide) ?_
  refine mw_V (As := [.int 60]) (rest := []) (T := TX1) (N := 9) (n := 1) ⟨hx, hb, hml, hown, hts⟩ (so_X1_passHours l G (h + 69) 60 M_1 _ hw) wm_RX9_189 wi_yX1_passHours wv_yX1_passHours wn_RX1 wc_yX1_passHours (by decide) ⟨Nat.le_of_ble_eq_true rfl, Nat.le_of_ble_eq_true rfl⟩ ⟨rfl, rfl⟩ (ks9_2 kh) (by decide) (mk1 (ks9_2 kh)) rfl hSt hTb hP hS rfl hl.1 rfl (Nat.le_of_ble_eq_true rfl) dX9_saved_10 ⟨Nat.le_refl 0, Nat.le_refl 0⟩ (fun rr_ M_2 H locs hq hP hS => ?_)
  obtain ⟨rfl, hw⟩ := hq
  refine lv_aload_n hx hb dX9_saved_13 rfl (lv_at hl 0 rfl) ?_
  refine mw_get (ci := 9) (v := .ref (G.1 + (h + 69))) (C := RX9) (T := TX9) (N := 8) hx hb ht inX9 hown hSt hP kh (by decide) (mk9 kh) rfl 2 (by decide) (ht _ wf_RX9_22) rfl rfl dX9_saved_14 ?_
  refine mw_V (As := []) (rest := []) (T := TX1) (N := 9) (n := 0) ⟨hx, hb, hml, hown, hts⟩ (so_X1_foundSet l G (h + 69) M_2 _ hw) wm_RX9_193 wi_yX1_foundSet wv_yX1_foundSet wn_RX1 wc_yX1_foundSet (by decide) ⟨Nat.le_of_ble_eq_true rfl, Nat.le_of_ble_eq_true rfl⟩ ⟨rfl, rfl⟩ (ks9_2 kh) (by decide) (mk1 (ks9_2 kh)) rfl hSt hTb hP hS rfl hl.1 rfl (Nat.le_of_ble_eq_true rfl) dX9_saved_17 ⟨Nat.le_refl 0, Nat.le_refl 0⟩ (fun rr_ M_3 H locs hq hP hS => ?_)
  obtain ⟨r_4, rfl, hw⟩ := hq
  exact W.iret hx hb hr (mw_end hP hSt hTb hS ⟨_, rfl, hw⟩) hS.2.2 dX9_saved_20
def b_X9_add_154 (h : Nat) (Q : Int32 → Mem → Prop) (K49 : Int32 → Int32 → Int32 → Mem → Prop) (v1 : Int32) (v2 : Int32) (v3 : Int32) (v4 : Int32) (v5 : Int32) (v6 : Int32) (M : Mem) : Prop :=
  ∀ x_1 : Int32, x_1 = v6 + 1 → K49 v4 v5 x_1 M
def b_X9_add_88 (h : Nat) (Q : Int32 → Mem → Prop) (K49 : Int32 → Int32 → Int32 → Mem → Prop) (v1 : Int32) (v2 : Int32) (v3 : Int32) (v4 : Int32) (v5 : Int32) (v6 : Int32) (s0 : Int32) (M : Mem) : Prop :=
  (¬ s0 = 0 → wp_X9_thinkFromNow h M (fun M_3 => vp_in v1 7 ∧ (∀ M_5, M_5 = mu M_3 (h + 69 + 13 + 9 + v1.toNatClampNeg) 4 (v3 ||| v6) → wp_X1_passHoursFor (h + 69) v1 v2 M_5 (fun r_7 M_6 => vp_in v1 7 ∧ (((M_6 (h + 69 + 13 + 9 + v1.toNatClampNeg) 5) = 0 → b_X9_add_154 h Q K49 v1 v2 v3 v4 v5 v6 M_6) ∧ (¬ (M_6 (h + 69 + 13 + 9 + v1.toNatClampNeg) 5) = 0 → wp_J6_bitCount_0f7a4 v6 M_6 (fun r_11 M_10 => b_X9_add_154 h Q K49 v1 v2 v3 v6 r_11 v6 M_10))))))) ∧ (s0 = 0 → b_X9_add_154 h Q K49 v1 v2 v3 v4 v5 v6 M)
def b_X9_add_87 (h : Nat) (Q : Int32 → Mem → Prop) (K49 : Int32 → Int32 → Int32 → Mem → Prop) (v1 : Int32) (v2 : Int32) (v3 : Int32) (v4 : Int32) (v5 : Int32) (v6 : Int32) (M : Mem) : Prop :=
  b_X9_add_88 h Q K49 v1 v2 v3 v4 v5 v6 0 M
def B_X9_add_49 (h : Nat) (Q : Int32 → Mem → Prop) (v1 : Int32) (v2 : Int32) (v3 : Int32) (K49 : Int32 → Int32 → Int32 → Mem → Prop) (v4 : Int32) (v5 : Int32) (v6 : Int32) (M : Mem) : Prop :=
  ((ish 1 (M (h + 1 + 1) 6)) ≤ v6 → (v4 < 0 → wp_X9_refuse h 2 M (fun r_15 M_14 => Q r_15 M_14)) ∧ (¬ v4 < 0 → Q v4 M)) ∧ (¬ (ish 1 (M (h + 1 + 1) 6)) ≤ v6 → (¬ (v6 &&& v3) = 0 → b_X9_add_87 h Q K49 v1 v2 v3 v4 v5 v6 M) ∧ ((v6 &&& v3) = 0 → wp_J6_bitCount_0f7a4 v6 M (fun r_18 M_17 => (v5 ≤ r_18 → b_X9_add_87 h Q K49 v1 v2 v3 v4 v5 v6 M_17) ∧ (¬ v5 ≤ r_18 → b_X9_add_88 h Q K49 v1 v2 v3 v4 v5 v6 1 M_17))))
def l_X9_add_49 (h : Nat) (Q : Int32 → Mem → Prop) (v1 : Int32) (v2 : Int32) (v3 : Int32) : Nat → Int32 → Int32 → Int32 → Mem → Prop
  | 0 => fun _ _ _ _ => False
  | n + 1 => B_X9_add_49 h Q v1 v2 v3 (l_X9_add_49 h Q v1 v2 v3 n)
def b_X9_add_17 (h : Nat) (Q : Int32 → Mem → Prop) (M : Mem) : Prop :=
  wp_X9_refuse h 1 M (fun r_21 M_20 => Q r_21 M_20)
def wp_X9_add (h : Nat) (a1 : Int32) (a2 : Int32) (M : Mem) (Q : Int32 → Mem → Prop) : Prop :=
  kdT h = 9 ∧ (wp_X9_isSheep h a1 M (fun r_23 M_22 => (r_23 = 0 → b_X9_add_17 h Q M_22) ∧ (¬ r_23 = 0 → wp_X9_isWithin a2 20 M_22 (fun r_26 M_25 => (¬ r_26 = 0 → vp_in a1 7 ∧ (∀ x_29, x_29 = M_25 (h + 1 + 1 + 13 + 9 + a1.toNatClampNeg) 4 → ∃ n, l_X9_add_49 h Q a1 a2 x_29 n (-1) 7 0 M_25)) ∧ (r_26 = 0 → b_X9_add_17 h Q M_25)))))
set_option maxHeartbeats 4000000 in
set_option maxRecDepth 100000 in
theorem so_X9_add (l : Launch) (G : Gm) (h : Nat) (a1 : Int32) (a2 : Int32) (M : Mem) (Q : Int32 → Mem → Prop) (hw : wp_X9_add h a1 a2 M Q) : Ct l G yX9_add cX9_add 8 (some .int) ({ frames := 6, cells := 0, slots := 0, locals := 168 } : Room) [.ref (G.1 + h), .int a1, .int a2] M (Qi Q) := by
  unfold wp_X9_add at hw
  obtain ⟨kh, hw⟩ := hw
  refine ct_of (by decide) (Nat.le_of_ble_eq_true rfl) ?_
  intro p e s m below meth c E_ ls H hl hP hS
  obtain ⟨hx, hb, hml, hown, hts, ht, hr, hlocks, hSt, hTb⟩ := E_
  have hl : lv_has ls 8 [(0, .ref (G.1 + h)), (1, .int a1), (2, .int a2)] := hl
  have L_49 : ∀ (v1 : Int32) (v2 : Int32) (v3 : Int32), ∀ (n49 : Nat) (v4 : Int32) (v5 : Int32) (v6 : Int32) (M : Mem) (H : Heap) (locs : List Loc) (ls : Array Slot), l_X9_add_49 h Q v1 v2 v3 n49 v4 v5 v6 M → va_P G.2.1 clsA (wl G M) H → va_S (inW G) s.heap H locs → lv_has ls 8 [(0, .ref (G.1 + h)), (1, .int v1), (2, .int v2), (3, .int v3), (4, .int v4), (5, .int v5), (6, .int v6)] → W p l e ({ frames := 6, cells := 0, slots := 0, locals := 168 } : Room) s m ([.ref (G.1 + h), .int a1, .int a2] : List Value).toArray below meth c H locs 0 0 (MQ below (Pq G (Qi Q)) ([.ref (G.1 + h), .int a1, .int a2] : List Value).toArray s 0 0 (inW G)) (F0 m 49 ls []) := by
    intro v1 v2 v3  n49
    induction n49 with
    | zero => intro v4 v5 v6 M H locs ls  hw hP hS hl; exact False.elim hw
    | succ n49 ih49 =>
      have J_154 : ∀ (v4 : Int32) (v5 : Int32) (v6 : Int32) (M : Mem) (H : Heap) (locs : List Loc) (ls : Array Slot), b_X9_add_154 h Q (l_X9_add_49 h Q v1 v2 v3 n49) v1 v2 v3 v4 v5 v6 M → va_P G.2.1 clsA (wl G M) H → va_S (inW G) s.heap H locs → lv_has ls 8 [(0, .ref (G.1 + h)), (1, .int v1), (2, .int v2), (3, .int v3), (4, .int v4), (5, .int v5), (6, .int v6)] → W p l e ({ frames := 6, cells := 0, slots := 0, locals := 168 } : Room) s m ([.ref (G.1 + h), .int a1, .int a2] : List Value).toArray below meth c H locs 0 0 (MQ below (Pq G (Qi Q)) ([.ref (G.1 + h), .int a1, .int a2] : List Value).toArray s 0 0 (inW G)) (F0 m 154 ls []) := by
        intro v4 v5 v6 M H locs ls  hw hP hS hl
        unfold b_X9_add_154 at hw
        obtain ⟨x_1, ex_1⟩ : ∃ z : Int32, z = v6 + 1 := ⟨_, rfl⟩
        have hw := hw x_1 ex_1
        refine lv_iinc (v := x_1) (lv' := [(6, .int x_1), (0, .ref (G.1 + h)), (1, .int v1), (2, .int v2), (3, .int v3), (4, .int v4), (5, .int v5)]) hx hb dX9_add_154 hl (k := 6) rfl (by rw [ex_1]; rfl) (by decide) rfl (fun ls hl => ?_)
        refine lv_goto (tgt := 49) hx hb dX9_add_157 (by decide) ?_
        exact ih49 v4 v5 x_1 M _ _ _ hw hP hS (lv_sub hl [1, 2, 3, 4, 5, 6, 0] rfl)
      have J_88 : ∀ (v4 : Int32) (v5 : Int32) (v6 : Int32) (s0 : Int32) (M : Mem) (H : Heap) (locs : List Loc) (ls : Array Slot), b_X9_add_88 h Q (l_X9_add_49 h Q v1 v2 v3 n49) v1 v2 v3 v4 v5 v6 s0 M → va_P G.2.1 clsA (wl G M) H → va_S (inW G) s.heap H locs → lv_has ls 8 [(0, .ref (G.1 + h)), (1, .int v1), (2, .int v2), (3, .int v3), (4, .int v4), (5, .int v5), (6, .int v6)] → W p l e ({ frames := 6, cells := 0, slots := 0, locals := 168 } : Room) s m ([.ref (G.1 + h), .int a1, .int a2] : List Value).toArray below meth c H locs 0 0 (MQ below (Pq G (Qi Q)) ([.ref (G.1 + h), .int a1, .int a2] : List Value).toArray s 0 0 (inW G)) (F0 m 88 ls [.int s0]) := by
        intro v4 v5 v6 s0 M H locs ls  hw hP hS hl
        unfold b_X9_add_88 at hw
        refine lv_istore (lv' := [(7, .int s0), (0, .ref (G.1 + h)), (1, .int v1), (2, .int v2), (3, .int v3), (4, .int v4), (5, .int v5), (6, .int v6)]) hx hb dX9_add_88 hl (by decide) rfl (fun ls hl => ?_)
        refine lv_iload hx hb dX9_add_90 (lv_at hl 0 rfl) ?_
        refine lv_if_ne (tgt := 98) hx hb dX9_add_92 (by decide) (fun c_2 => ?_) (fun c_2 => ?_)
        · have hw := hw.1 c_2
          refine lv_aload_n hx hb dX9_add_98 rfl (lv_at hl 1 rfl) ?_
          refine mw_V (As := []) (rest := []) (T := TX9) (N := 8) (n := 0) ⟨hx, hb, hml, hown, hts⟩ (so_X9_thinkFromNow l G h M _ hw) wm_RX9_200 wi_yX9_thinkFromNow wv_yX9_thinkFromNow wn_RX9 wc_yX9_thinkFromNow (by decide) ⟨Nat.le_of_ble_eq_true rfl, Nat.le_of_ble_eq_true rfl⟩ ⟨rfl, rfl⟩ kh (by decide) (mk9 kh) rfl hSt hTb hP hS rfl hl.1 rfl (Nat.le_of_ble_eq_true rfl) dX9_add_99 ⟨Nat.le_refl 0, Nat.le_refl 0⟩ (fun rr_ M_3 H locs hq hP hS => ?_)
          obtain ⟨rfl, hw⟩ := hq
          refine lv_aload_n hx hb dX9_add_102 rfl (lv_at hl 1 rfl) ?_
          refine mw_get (ci := 9) (v := .ref (G.1 + (h + 69))) (C := RX9) (T := TX9) (N := 8) hx hb ht inX9 hown hSt hP kh (by decide) (mk9 kh) rfl 2 (by decide) (ht _ wf_RX9_22) rfl rfl dX9_add_103 ?_
          refine mw_get (ci := 1) (v := .ref (G.1 + (h + 69 + 13))) (C := RX1) (T := TX1) (N := 9) hx hb ht inX1 hown hSt hP (ks9_2 kh) (by decide) (mk1 (ks9_2 kh)) rfl 4 (by decide) (ht _ wf_RX9_106) rfl rfl dX9_add_106 ?_
          refine lv_iload_n hx hb dX9_add_109 rfl (lv_at hl 2 rfl) ?_
          obtain ⟨c_4, hw⟩ := hw
          refine mw_aald13 hx hb hSt hP (ks1_4 (ks9_2 kh)) (by rw [(ln1_4 (ks9_2 kh))]; exact c_4) dX9_add_110 ?_
          refine lv_iload_n hx hb dX9_add_111 rfl (lv_at hl 4 rfl) ?_
          refine lv_iload hx hb dX9_add_112 (lv_at hl 7 rfl) ?_
          refine lv_ior hx hb dX9_add_114 ?_
          refine mw_put (ci := 5) (v := v3 ||| v6) (ty := .int) (C := RX5) (T := TX5) (N := 6) hx hb ht inX5 tyX5 tyX5_ok nmX5 hown hSt hP hS (ke13 (ks1_4 (ks9_2 kh)) (vp_lt (by rw [(ln1_4 (ks9_2 kh))]; exact c_4))) (by decide) (mk5 (ke13 (ks1_4 (ks9_2 kh)) (vp_lt (by rw [(ln1_4 (ks9_2 kh))]; exact c_4)))) rfl 4 (by decide) (ht _ wf_RX9_124) rfl rfl (by decide +kernel) (vp_nar_int _) rfl (Nat.le_of_ble_eq_true rfl) (by rw [mk5 (ke13 (ks1_4 (ks9_2 kh)) (vp_lt (by rw [(ln1_4 (ks9_2 kh))]; exact c_4)))]; simp [mu]) dX9_add_115 (fun M_5 H locs eM_5 hP hS => ?_)
          have hw := hw M_5 eM_5
          refine lv_aload_n hx hb dX9_add_118 rfl (lv_at hl 1 rfl) ?_
          refine mw_get (ci := 9) (v := .ref (G.1 + (h + 69))) (C := RX9) (T := TX9) (N := 8) hx hb ht inX9 hown hSt hP kh (by decide) (mk9 kh) rfl 2 (by decide) (ht _ wf_RX9_22) rfl rfl dX9_add_119 ?_
          refine lv_iload_n hx hb dX9_add_122 rfl (lv_at hl 2 rfl) ?_
          refine lv_iload_n hx hb dX9_add_123 rfl (lv_at hl 3 rfl) ?_
          refine mw_V (As := [.int v1, .int v2]) (rest := []) (T := TX1) (N := 9) (n := 2) ⟨hx, hb, hml, hown, hts⟩ (so_X1_passHoursFor l G (h + 69) v1 v2 M_5 _ hw) wm_RX9_206 wi_yX1_passHoursFor wv_yX1_passHoursFor wn_RX1 wc_yX1_passHoursFor (by decide) ⟨Nat.le_of_ble_eq_true rfl, Nat.le_of_ble_eq_true rfl⟩ ⟨rfl, rfl⟩ (ks9_2 kh) (by decide) (mk1 (ks9_2 kh)) rfl hSt hTb hP hS rfl hl.1 rfl (Nat.le_of_ble_eq_true rfl) dX9_add_124 ⟨Nat.le_refl 0, Nat.le_refl 0⟩ (fun rr_ M_6 H locs hq hP hS => ?_)
          obtain ⟨r_7, rfl, hw⟩ := hq
          refine lv_pop hx hb dX9_add_127 rfl ?_
          refine lv_aload_n hx hb dX9_add_128 rfl (lv_at hl 1 rfl) ?_
          refine mw_get (ci := 9) (v := .ref (G.1 + (h + 69))) (C := RX9) (T := TX9) (N := 8) hx hb ht inX9 hown hSt hP kh (by decide) (mk9 kh) rfl 2 (by decide) (ht _ wf_RX9_22) rfl rfl dX9_add_129 ?_
          refine mw_get (ci := 1) (v := .ref (G.1 + (h + 69 + 13))) (C := RX1) (T := TX1) (N := 9) hx hb ht inX1 hown hSt hP (ks9_2 kh) (by decide) (mk1 (ks9_2 kh)) rfl 4 (by decide) (ht _ wf_RX9_106) rfl rfl dX9_add_132 ?_
          refine lv_iload_n hx hb dX9_add_135 rfl (lv_at hl 2 rfl) ?_
          obtain ⟨c_8, hw⟩ := hw
          refine mw_aald13 hx hb hSt hP (ks1_4 (ks9_2 kh)) (by rw [(ln1_4 (ks9_2 kh))]; exact c_8) dX9_add_136 ?_
          refine mw_get (ci := 5) (v := .int (M_6 (h + 69 + 13 + 9 + v1.toNatClampNeg) 5)) (C := RX5) (T := TX5) (N := 6) hx hb ht inX5 hown hSt hP (ke13 (ks1_4 (ks9_2 kh)) (vp_lt (by rw [(ln1_4 (ks9_2 kh))]; exact c_8))) (by decide) (mk5 (ke13 (ks1_4 (ks9_2 kh)) (vp_lt (by rw [(ln1_4 (ks9_2 kh))]; exact c_8)))) rfl 5 (by decide) (ht _ wf_RX9_127) rfl rfl dX9_add_137 ?_
          refine lv_if_eq (tgt := 154) hx hb dX9_add_140 (by decide) (fun c_9 => ?_) (fun c_9 => ?_)
          · have hw := hw.1 c_9
            exact J_154 v4 v5 v6 M_6 _ _ _ hw hP hS (lv_sub hl [1, 2, 3, 4, 5, 6, 7] rfl)
          · have hw := hw.2 c_9
            refine lv_iload hx hb dX9_add_143 (lv_at hl 7 rfl) ?_
            refine lv_istore (lv' := [(4, .int v6), (7, .int s0), (0, .ref (G.1 + h)), (1, .int v1), (2, .int v2), (3, .int v3), (5, .int v5), (6, .int v6)]) hx hb dX9_add_145 hl (by decide) rfl (fun ls hl => ?_)
            refine lv_iload hx hb dX9_add_147 (lv_at hl 7 rfl) ?_
            refine mw_Sx (As := [.int v6]) (rest := []) (n := 1) ⟨hx, hb, hml, hown, hts⟩ (so_J6_bitCount_0f7a4 l G v6 M_6 _ hw) wm_RX9_210 wt_yJ6_bitCount_0f7a4 wn_RJ6 wc_yJ6_bitCount_0f7a4 (by decide) ⟨Nat.le_of_ble_eq_true rfl, Nat.le_of_ble_eq_true rfl⟩ ⟨rfl, rfl⟩ hSt hTb hP hS rfl hl.1 rfl (Nat.le_of_ble_eq_true rfl) dX9_add_149 ⟨Nat.le_refl 0, Nat.le_refl 0⟩ (fun rr_ M_10 H locs hq hP hS => ?_)
            obtain ⟨r_11, rfl, hw⟩ := hq
            refine lv_istore (lv' := [(5, .int r_11), (4, .int v6), (7, .int s0), (0, .ref (G.1 + h)), (1, .int v1), (2, .int v2), (3, .int v3), (6, .int v6)]) hx hb dX9_add_152 hl (by decide) rfl (fun ls hl => ?_)
            exact J_154 v6 r_11 v6 M_10 _ _ _ hw hP hS (lv_sub hl [3, 4, 5, 6, 1, 0, 7] rfl)
        · have hw := hw.2 c_2
          refine lv_goto (tgt := 154) hx hb dX9_add_95 (by decide) ?_
          exact J_154 v4 v5 v6 M _ _ _ hw hP hS (lv_sub hl [1, 2, 3, 4, 5, 6, 7] rfl)
      have J_87 : ∀ (v4 : Int32) (v5 : Int32) (v6 : Int32) (M : Mem) (H : Heap) (locs : List Loc) (ls : Array Slot), b_X9_add_87 h Q (l_X9_add_49 h Q v1 v2 v3 n49) v1 v2 v3 v4 v5 v6 M → va_P G.2.1 clsA (wl G M) H → va_S (inW G) s.heap H locs → lv_has ls 8 [(0, .ref (G.1 + h)), (1, .int v1), (2, .int v2), (3, .int v3), (4, .int v4), (5, .int v5), (6, .int v6)] → W p l e ({ frames := 6, cells := 0, slots := 0, locals := 168 } : Room) s m ([.ref (G.1 + h), .int a1, .int a2] : List Value).toArray below meth c H locs 0 0 (MQ below (Pq G (Qi Q)) ([.ref (G.1 + h), .int a1, .int a2] : List Value).toArray s 0 0 (inW G)) (F0 m 87 ls []) := by
        intro v4 v5 v6 M H locs ls  hw hP hS hl
        unfold b_X9_add_87 at hw
        refine lv_iconst (v := 0) hx hb dX9_add_87 (by decide) ?_
        exact J_88 v4 v5 v6 0 M _ _ _ hw hP hS (lv_sub hl [0, 1, 2, 3, 4, 5, 6] rfl)
      intro v4 v5 v6 M H locs ls  hw hP hS hl
      have hw : B_X9_add_49 h Q v1 v2 v3 (l_X9_add_49 h Q v1 v2 v3 n49) v4 v5 v6 M := hw
      unfold B_X9_add_49 at hw
      refine lv_iload hx hb dX9_add_49 (lv_at hl 6 rfl) ?_
      refine lv_iconst (v := 1) hx hb dX9_add_51 (by decide) ?_
      refine lv_aload_n hx hb dX9_add_52 rfl (lv_at hl 0 rfl) ?_
      refine mw_get (ci := 9) (v := .ref (G.1 + (h + 1))) (C := RX9) (T := TX9) (N := 8) hx hb ht inX9 hown hSt hP kh (by decide) (mk9 kh) rfl 0 (by decide) (ht _ wf_RX9_10) rfl rfl dX9_add_53 ?_
      refine mw_get (ci := 8) (v := .ref (G.1 + (h + 1 + 1))) (C := RX8) (T := TX8) (N := 4) hx hb ht inX8 hown hSt hP (ks9_0 kh) (by decide) (mk8 (ks9_0 kh)) rfl 0 (by decide) (ht _ wf_RX9_63) rfl rfl dX9_add_56 ?_
      refine mw_get (ci := 1) (v := .int (M (h + 1 + 1) 6)) (C := RX1) (T := TX1) (N := 9) hx hb ht inX1 hown hSt hP (ks8_0 (ks9_0 kh)) (by decide) (mk1 (ks8_0 (ks9_0 kh))) rfl 6 (by decide) (ht _ wf_RX9_75) rfl rfl dX9_add_59 ?_
      refine lv_ishl hx hb dX9_add_62 ?_
      refine lv_icmp_ge (tgt := 160) hx hb dX9_add_63 (by decide) (fun c_12 => ?_) (fun c_12 => ?_)
      · have hw := hw.1 c_12
        refine lv_iload hx hb dX9_add_160 (lv_at hl 4 rfl) ?_
        refine lv_if_lt (tgt := 170) hx hb dX9_add_162 (by decide) (fun c_13 => ?_) (fun c_13 => ?_)
        · have hw := hw.1 c_13
          refine lv_aload_n hx hb dX9_add_170 rfl (lv_at hl 0 rfl) ?_
          refine lv_iconst (v := 2) hx hb dX9_add_171 (by decide) ?_
          refine mw_V (As := [.int 2]) (rest := []) (T := TX9) (N := 8) (n := 1) ⟨hx, hb, hml, hown, hts⟩ (so_X9_refuse l G h 2 M _ hw) wm_RX9_59 wi_yX9_refuse wv_yX9_refuse wn_RX9 wc_yX9_refuse (by decide) ⟨Nat.le_of_ble_eq_true rfl, Nat.le_of_ble_eq_true rfl⟩ ⟨rfl, rfl⟩ kh (by decide) (mk9 kh) rfl hSt hTb hP hS rfl hl.1 rfl (Nat.le_of_ble_eq_true rfl) dX9_add_172 ⟨Nat.le_refl 0, Nat.le_refl 0⟩ (fun rr_ M_14 H locs hq hP hS => ?_)
          obtain ⟨r_15, rfl, hw⟩ := hq
          exact W.iret hx hb hr (mw_end hP hSt hTb hS ⟨_, rfl, hw⟩) hS.2.2 dX9_add_175
        · have hw := hw.2 c_13
          refine lv_iload hx hb dX9_add_165 (lv_at hl 4 rfl) ?_
          refine lv_goto (tgt := 175) hx hb dX9_add_167 (by decide) ?_
          exact W.iret hx hb hr (mw_end hP hSt hTb hS ⟨_, rfl, hw⟩) hS.2.2 dX9_add_175
      · have hw := hw.2 c_12
        refine lv_iload hx hb dX9_add_66 (lv_at hl 6 rfl) ?_
        refine lv_iload_n hx hb dX9_add_68 rfl (lv_at hl 3 rfl) ?_
        refine lv_iand hx hb dX9_add_69 ?_
        refine lv_if_ne (tgt := 87) hx hb dX9_add_70 (by decide) (fun c_16 => ?_) (fun c_16 => ?_)
        · have hw := hw.1 c_16
          exact J_87 v4 v5 v6 M _ _ _ hw hP hS (lv_sub hl [0, 1, 2, 3, 4, 5, 6] rfl)
        · have hw := hw.2 c_16
          refine lv_iload hx hb dX9_add_73 (lv_at hl 6 rfl) ?_
          refine mw_Sx (As := [.int v6]) (rest := []) (n := 1) ⟨hx, hb, hml, hown, hts⟩ (so_J6_bitCount_0f7a4 l G v6 M _ hw) wm_RX9_210 wt_yJ6_bitCount_0f7a4 wn_RJ6 wc_yJ6_bitCount_0f7a4 (by decide) ⟨Nat.le_of_ble_eq_true rfl, Nat.le_of_ble_eq_true rfl⟩ ⟨rfl, rfl⟩ hSt hTb hP hS rfl hl.1 rfl (Nat.le_of_ble_eq_true rfl) dX9_add_75 ⟨Nat.le_refl 0, Nat.le_refl 0⟩ (fun rr_ M_17 H locs hq hP hS => ?_)
          obtain ⟨r_18, rfl, hw⟩ := hq
          refine lv_iload hx hb dX9_add_78 (lv_at hl 5 rfl) ?_
          refine lv_icmp_ge (tgt := 87) hx hb dX9_add_80 (by decide) (fun c_19 => ?_) (fun c_19 => ?_)
          · have hw := hw.1 c_19
            exact J_87 v4 v5 v6 M_17 _ _ _ hw hP hS (lv_sub hl [0, 1, 2, 3, 4, 5, 6] rfl)
          · have hw := hw.2 c_19
            refine lv_iconst (v := 1) hx hb dX9_add_83 (by decide) ?_
            refine lv_goto (tgt := 88) hx hb dX9_add_84 (by decide) ?_
            exact J_88 v4 v5 v6 1 M_17 _ _ _ hw hP hS (lv_sub hl [0, 1, 2, 3, 4, 5, 6] rfl)
  have J_17 : ∀  (M : Mem) (H : Heap) (locs : List Loc) (ls : Array Slot), b_X9_add_17 h Q M → va_P G.2.1 clsA (wl G M) H → va_S (inW G) s.heap H locs → lv_has ls 8 [(0, .ref (G.1 + h))] → W p l e ({ frames := 6, cells := 0, slots := 0, locals := 168 } : Room) s m ([.ref (G.1 + h), .int a1, .int a2] : List Value).toArray below meth c H locs 0 0 (MQ below (Pq G (Qi Q)) ([.ref (G.1 + h), .int a1, .int a2] : List Value).toArray s 0 0 (inW G)) (F0 m 17 ls []) := by
    intro  M H locs ls  hw hP hS hl
    unfold b_X9_add_17 at hw
    refine lv_aload_n hx hb dX9_add_17 rfl (lv_at hl 0 rfl) ?_
    refine lv_iconst (v := 1) hx hb dX9_add_18 (by decide) ?_
    refine mw_V (As := [.int 1]) (rest := []) (T := TX9) (N := 8) (n := 1) ⟨hx, hb, hml, hown, hts⟩ (so_X9_refuse l G h 1 M _ hw) wm_RX9_59 wi_yX9_refuse wv_yX9_refuse wn_RX9 wc_yX9_refuse (by decide) ⟨Nat.le_of_ble_eq_true rfl, Nat.le_of_ble_eq_true rfl⟩ ⟨rfl, rfl⟩ kh (by decide) (mk9 kh) rfl hSt hTb hP hS rfl hl.1 rfl (Nat.le_of_ble_eq_true rfl) dX9_add_19 ⟨Nat.le_refl 0, Nat.le_refl 0⟩ (fun rr_ M_20 H locs hq hP hS => ?_)
    obtain ⟨r_21, rfl, hw⟩ := hq
    exact W.iret hx hb hr (mw_end hP hSt hTb hS ⟨_, rfl, hw⟩) hS.2.2 dX9_add_22
  refine lv_aload_n hx hb dX9_add_0 rfl (lv_at hl 0 rfl) ?_
  refine lv_iload_n hx hb dX9_add_1 rfl (lv_at hl 1 rfl) ?_
  refine mw_V (As := [.int a1]) (rest := []) (T := TX9) (N := 8) (n := 1) ⟨hx, hb, hml, hown, hts⟩ (so_X9_isSheep l G h a1 M _ hw) wm_RX9_131 wi_yX9_isSheep wv_yX9_isSheep wn_RX9 wc_yX9_isSheep (by decide) ⟨Nat.le_of_ble_eq_true rfl, Nat.le_of_ble_eq_true rfl⟩ ⟨rfl, rfl⟩ kh (by decide) (mk9 kh) rfl hSt hTb hP hS rfl hl.1 rfl (Nat.le_of_ble_eq_true rfl) dX9_add_2 ⟨Nat.le_refl 0, Nat.le_refl 0⟩ (fun rr_ M_22 H locs hq hP hS => ?_)
  obtain ⟨r_23, rfl, hw⟩ := hq
  refine lv_if_eq (tgt := 17) hx hb dX9_add_5 (by decide) (fun c_24 => ?_) (fun c_24 => ?_)
  · have hw := hw.1 c_24
    exact J_17 M_22 _ _ _ hw hP hS (lv_sub hl [0] rfl)
  · have hw := hw.2 c_24
    refine lv_iload_n hx hb dX9_add_8 rfl (lv_at hl 2 rfl) ?_
    refine lv_bipush (v := 20) hx hb dX9_add_9 (by decide) ?_
    refine mw_Sx (As := [.int a2, .int 20]) (rest := []) (n := 2) ⟨hx, hb, hml, hown, hts⟩ (so_X9_isWithin l G a2 20 M_22 _ hw) wm_RX9_55 wt_yX9_isWithin wn_RX9 wc_yX9_isWithin (by decide) ⟨Nat.le_of_ble_eq_true rfl, Nat.le_of_ble_eq_true rfl⟩ ⟨rfl, rfl⟩ hSt hTb hP hS rfl hl.1 rfl (Nat.le_of_ble_eq_true rfl) dX9_add_11 ⟨Nat.le_refl 0, Nat.le_refl 0⟩ (fun rr_ M_25 H locs hq hP hS => ?_)
    obtain ⟨r_26, rfl, hw⟩ := hq
    refine lv_if_ne (tgt := 23) hx hb dX9_add_14 (by decide) (fun c_27 => ?_) (fun c_27 => ?_)
    · have hw := hw.1 c_27
      refine lv_aload_n hx hb dX9_add_23 rfl (lv_at hl 0 rfl) ?_
      refine mw_get (ci := 9) (v := .ref (G.1 + (h + 1))) (C := RX9) (T := TX9) (N := 8) hx hb ht inX9 hown hSt hP kh (by decide) (mk9 kh) rfl 0 (by decide) (ht _ wf_RX9_10) rfl rfl dX9_add_24 ?_
      refine mw_get (ci := 8) (v := .ref (G.1 + (h + 1 + 1))) (C := RX8) (T := TX8) (N := 4) hx hb ht inX8 hown hSt hP (ks9_0 kh) (by decide) (mk8 (ks9_0 kh)) rfl 0 (by decide) (ht _ wf_RX9_63) rfl rfl dX9_add_27 ?_
      refine mw_get (ci := 1) (v := .ref (G.1 + (h + 1 + 1 + 13))) (C := RX1) (T := TX1) (N := 9) hx hb ht inX1 hown hSt hP (ks8_0 (ks9_0 kh)) (by decide) (mk1 (ks8_0 (ks9_0 kh))) rfl 4 (by decide) (ht _ wf_RX9_106) rfl rfl dX9_add_30 ?_
      refine lv_iload_n hx hb dX9_add_33 rfl (lv_at hl 1 rfl) ?_
      obtain ⟨c_28, hw⟩ := hw
      refine mw_aald13 hx hb hSt hP (ks1_4 (ks8_0 (ks9_0 kh))) (by rw [(ln1_4 (ks8_0 (ks9_0 kh)))]; exact c_28) dX9_add_34 ?_
      refine mw_get (ci := 5) (v := .int (M_25 (h + 1 + 1 + 13 + 9 + a1.toNatClampNeg) 4)) (C := RX5) (T := TX5) (N := 6) hx hb ht inX5 hown hSt hP (ke13 (ks1_4 (ks8_0 (ks9_0 kh))) (vp_lt (by rw [(ln1_4 (ks8_0 (ks9_0 kh)))]; exact c_28))) (by decide) (mk5 (ke13 (ks1_4 (ks8_0 (ks9_0 kh))) (vp_lt (by rw [(ln1_4 (ks8_0 (ks9_0 kh)))]; exact c_28)))) rfl 4 (by decide) (ht _ wf_RX9_124) rfl rfl dX9_add_35 ?_
      refine lv_topi (fun x_29 ex_29 => ?_)
      have hw := hw x_29 ex_29
      refine lv_istore_n (lv' := [(3, .int x_29), (0, .ref (G.1 + h)), (1, .int a1), (2, .int a2)]) hx hb dX9_add_38 rfl hl (by decide) rfl (fun ls hl => ?_)
      refine lv_iconst (v := (-1)) hx hb dX9_add_39 (by decide) ?_
      refine lv_istore (lv' := [(4, .int (-1)), (3, .int x_29), (0, .ref (G.1 + h)), (1, .int a1), (2, .int a2)]) hx hb dX9_add_40 hl (by decide) rfl (fun ls hl => ?_)
      refine lv_bipush (v := 7) hx hb dX9_add_42 (by decide) ?_
      refine lv_istore (lv' := [(5, .int 7), (4, .int (-1)), (3, .int x_29), (0, .ref (G.1 + h)), (1, .int a1), (2, .int a2)]) hx hb dX9_add_44 hl (by decide) rfl (fun ls hl => ?_)
      refine lv_iconst (v := 0) hx hb dX9_add_46 (by decide) ?_
      refine lv_istore (lv' := [(6, .int 0), (5, .int 7), (4, .int (-1)), (3, .int x_29), (0, .ref (G.1 + h)), (1, .int a1), (2, .int a2)]) hx hb dX9_add_47 hl (by decide) rfl (fun ls hl => ?_)
      obtain ⟨n_, hw⟩ := hw
      exact L_49 a1 a2 x_29 n_ (-1) 7 0 M_25 _ _ _ hw hP hS (lv_sub hl [4, 5, 6, 3, 2, 1, 0] rfl)
    · have hw := hw.2 c_27
      exact J_17 M_25 _ _ _ hw hP hS (lv_sub hl [0] rfl)
def b_X9_start_100 (h : Nat) (Q : Int32 → Mem → Prop) (K40 : Int32 → Int32 → Int32 → Mem → Prop) (v1 : Int32) (v2 : Int32) (v3 : Int32) (v4 : Int32) (v5 : Int32) (v6 : Int32) (M : Mem) : Prop :=
  ∀ x_1 : Int32, x_1 = v6 + 1 → K40 v4 v5 x_1 M
def B_X9_start_40 (h : Nat) (Q : Int32 → Mem → Prop) (v1 : Int32) (v2 : Int32) (v3 : Int32) (K40 : Int32 → Int32 → Int32 → Mem → Prop) (v4 : Int32) (v5 : Int32) (v6 : Int32) (M : Mem) : Prop :=
  (10 ≤ v6 → (¬ v3 = 0 → Q v5 M) ∧ (v3 = 0 → Q v4 M)) ∧ (¬ 10 ≤ v6 → wp_X9_thinkFromNow h M (fun M_4 => vp_in v1 6 ∧ (∀ M_6, M_6 = mu M_4 (h + 69 + 12 + 4 + v1.toNatClampNeg) 0 v6 → wp_X1_passHours (h + 69) v2 M_6 (fun M_7 => wp_X1_foundSet (h + 69) M_7 (fun r_9 M_8 => wp_J6_bitCount_0f7a4 r_9 M_8 (fun r_11 M_10 => (r_11 ≤ v5 → b_X9_start_100 h Q K40 v1 v2 v3 v4 v5 v6 M_10) ∧ (¬ r_11 ≤ v5 → b_X9_start_100 h Q K40 v1 v2 v3 v6 r_11 v6 M_10)))))))
def l_X9_start_40 (h : Nat) (Q : Int32 → Mem → Prop) (v1 : Int32) (v2 : Int32) (v3 : Int32) : Nat → Int32 → Int32 → Int32 → Mem → Prop
  | 0 => fun _ _ _ _ => False
  | n + 1 => B_X9_start_40 h Q v1 v2 v3 (l_X9_start_40 h Q v1 v2 v3 n)
def b_X9_start_25 (h : Nat) (Q : Int32 → Mem → Prop) (M : Mem) : Prop :=
  wp_X9_refuse h 1 M (fun r_14 M_13 => Q r_14 M_13)
def wp_X9_start (h : Nat) (a1 : Int32) (a2 : Int32) (a3 : Int32) (M : Mem) (Q : Int32 → Mem → Prop) : Prop :=
  kdT h = 9 ∧ (wp_X9_isSeeker h a1 M (fun r_16 M_15 => (r_16 = 0 → b_X9_start_25 h Q M_15) ∧ (¬ r_16 = 0 → wp_X9_isWithin a2 20 M_15 (fun r_19 M_18 => (r_19 = 0 → b_X9_start_25 h Q M_18) ∧ (¬ r_19 = 0 → wp_X9_isWithin a3 1 M_18 (fun r_22 M_21 => (¬ r_22 = 0 → ∃ n, l_X9_start_40 h Q a1 a2 a3 n 0 (-1) 0 M_21) ∧ (r_22 = 0 → b_X9_start_25 h Q M_21)))))))
set_option maxHeartbeats 4000000 in
set_option maxRecDepth 100000 in
theorem so_X9_start (l : Launch) (G : Gm) (h : Nat) (a1 : Int32) (a2 : Int32) (a3 : Int32) (M : Mem) (Q : Int32 → Mem → Prop) (hw : wp_X9_start h a1 a2 a3 M Q) : Ct l G yX9_start cX9_start 8 (some .int) ({ frames := 6, cells := 0, slots := 0, locals := 167 } : Room) [.ref (G.1 + h), .int a1, .int a2, .int a3] M (Qi Q) := by
  unfold wp_X9_start at hw
  obtain ⟨kh, hw⟩ := hw
  refine ct_of (by decide) (Nat.le_of_ble_eq_true rfl) ?_
  intro p e s m below meth c E_ ls H hl hP hS
  obtain ⟨hx, hb, hml, hown, hts, ht, hr, hlocks, hSt, hTb⟩ := E_
  have hl : lv_has ls 8 [(0, .ref (G.1 + h)), (1, .int a1), (2, .int a2), (3, .int a3)] := hl
  have L_40 : ∀ (v1 : Int32) (v2 : Int32) (v3 : Int32), ∀ (n40 : Nat) (v4 : Int32) (v5 : Int32) (v6 : Int32) (M : Mem) (H : Heap) (locs : List Loc) (ls : Array Slot), l_X9_start_40 h Q v1 v2 v3 n40 v4 v5 v6 M → va_P G.2.1 clsA (wl G M) H → va_S (inW G) s.heap H locs → lv_has ls 8 [(0, .ref (G.1 + h)), (1, .int v1), (2, .int v2), (3, .int v3), (4, .int v4), (5, .int v5), (6, .int v6)] → W p l e ({ frames := 6, cells := 0, slots := 0, locals := 167 } : Room) s m ([.ref (G.1 + h), .int a1, .int a2, .int a3] : List Value).toArray below meth c H locs 0 0 (MQ below (Pq G (Qi Q)) ([.ref (G.1 + h), .int a1, .int a2, .int a3] : List Value).toArray s 0 0 (inW G)) (F0 m 40 ls []) := by
    intro v1 v2 v3  n40
    induction n40 with
    | zero => intro v4 v5 v6 M H locs ls  hw hP hS hl; exact False.elim hw
    | succ n40 ih40 =>
      have J_100 : ∀ (v4 : Int32) (v5 : Int32) (v6 : Int32) (M : Mem) (H : Heap) (locs : List Loc) (ls : Array Slot), b_X9_start_100 h Q (l_X9_start_40 h Q v1 v2 v3 n40) v1 v2 v3 v4 v5 v6 M → va_P G.2.1 clsA (wl G M) H → va_S (inW G) s.heap H locs → lv_has ls 8 [(0, .ref (G.1 + h)), (1, .int v1), (2, .int v2), (3, .int v3), (4, .int v4), (5, .int v5), (6, .int v6)] → W p l e ({ frames := 6, cells := 0, slots := 0, locals := 167 } : Room) s m ([.ref (G.1 + h), .int a1, .int a2, .int a3] : List Value).toArray below meth c H locs 0 0 (MQ below (Pq G (Qi Q)) ([.ref (G.1 + h), .int a1, .int a2, .int a3] : List Value).toArray s 0 0 (inW G)) (F0 m 100 ls []) := by
        intro v4 v5 v6 M H locs ls  hw hP hS hl
        unfold b_X9_start_100 at hw
        obtain ⟨x_1, ex_1⟩ : ∃ z : Int32, z = v6 + 1 := ⟨_, rfl⟩
        have hw := hw x_1 ex_1
        refine lv_iinc (v := x_1) (lv' := [(6, .int x_1), (0, .ref (G.1 + h)), (1, .int v1), (2, .int v2), (3, .int v3), (4, .int v4), (5, .int v5)]) hx hb dX9_start_100 hl (k := 6) rfl (by rw [ex_1]; rfl) (by decide) rfl (fun ls hl => ?_)
        refine lv_goto (tgt := 40) hx hb dX9_start_103 (by decide) ?_
        exact ih40 v4 v5 x_1 M _ _ _ hw hP hS (lv_sub hl [1, 2, 3, 4, 5, 6, 0] rfl)
      intro v4 v5 v6 M H locs ls  hw hP hS hl
      have hw : B_X9_start_40 h Q v1 v2 v3 (l_X9_start_40 h Q v1 v2 v3 n40) v4 v5 v6 M := hw
      unfold B_X9_start_40 at hw
      refine lv_iload hx hb dX9_start_40 (lv_at hl 6 rfl) ?_
      refine lv_bipush (v := 10) hx hb dX9_start_42 (by decide) ?_
      refine lv_icmp_ge (tgt := 106) hx hb dX9_start_44 (by decide) (fun c_2 => ?_) (fun c_2 => ?_)
      · have hw := hw.1 c_2
        refine lv_iload_n hx hb dX9_start_106 rfl (lv_at hl 3 rfl) ?_
        refine lv_if_ne (tgt := 115) hx hb dX9_start_107 (by decide) (fun c_3 => ?_) (fun c_3 => ?_)
        · have hw := hw.1 c_3
          refine lv_iload hx hb dX9_start_115 (lv_at hl 5 rfl) ?_
          exact W.iret hx hb hr (mw_end hP hSt hTb hS ⟨_, rfl, hw⟩) hS.2.2 dX9_start_117
        · have hw := hw.2 c_3
          refine lv_iload hx hb dX9_start_110 (lv_at hl 4 rfl) ?_
          refine lv_goto (tgt := 117) hx hb dX9_start_112 (by decide) ?_
          exact W.iret hx hb hr (mw_end hP hSt hTb hS ⟨_, rfl, hw⟩) hS.2.2 dX9_start_117
      · have hw := hw.2 c_2
        refine lv_aload_n hx hb dX9_start_47 rfl (lv_at hl 0 rfl) ?_
        refine mw_V (As := []) (rest := []) (T := TX9) (N := 8) (n := 0) ⟨hx, hb, hml, hown, hts⟩ (so_X9_thinkFromNow l G h M _ hw) wm_RX9_200 wi_yX9_thinkFromNow wv_yX9_thinkFromNow wn_RX9 wc_yX9_thinkFromNow (by decide) ⟨Nat.le_of_ble_eq_true rfl, Nat.le_of_ble_eq_true rfl⟩ ⟨rfl, rfl⟩ kh (by decide) (mk9 kh) rfl hSt hTb hP hS rfl hl.1 rfl (Nat.le_of_ble_eq_true rfl) dX9_start_48 ⟨Nat.le_refl 0, Nat.le_refl 0⟩ (fun rr_ M_4 H locs hq hP hS => ?_)
        obtain ⟨rfl, hw⟩ := hq
        refine lv_aload_n hx hb dX9_start_51 rfl (lv_at hl 0 rfl) ?_
        refine mw_get (ci := 9) (v := .ref (G.1 + (h + 69))) (C := RX9) (T := TX9) (N := 8) hx hb ht inX9 hown hSt hP kh (by decide) (mk9 kh) rfl 2 (by decide) (ht _ wf_RX9_22) rfl rfl dX9_start_52 ?_
        refine mw_get (ci := 1) (v := .ref (G.1 + (h + 69 + 12))) (C := RX1) (T := TX1) (N := 9) hx hb ht inX1 hown hSt hP (ks9_2 kh) (by decide) (mk1 (ks9_2 kh)) rfl 3 (by decide) (ht _ wf_RX9_79) rfl rfl dX9_start_55 ?_
        refine lv_iload_n hx hb dX9_start_58 rfl (lv_at hl 1 rfl) ?_
        obtain ⟨c_5, hw⟩ := hw
        refine mw_aald12 hx hb hSt hP (ks1_3 (ks9_2 kh)) (by rw [(ln1_3 (ks9_2 kh))]; exact c_5) dX9_start_59 ?_
        refine lv_iload hx hb dX9_start_60 (lv_at hl 6 rfl) ?_
        refine mw_put (ci := 4) (v := v6) (ty := .int) (C := RX4) (T := TX4) (N := 2) hx hb ht inX4 tyX4 tyX4_ok nmX4 hown hSt hP hS (ke12 (ks1_3 (ks9_2 kh)) (vp_lt (by rw [(ln1_3 (ks9_2 kh))]; exact c_5))) (by decide) (mk4 (ke12 (ks1_3 (ks9_2 kh)) (vp_lt (by rw [(ln1_3 (ks9_2 kh))]; exact c_5)))) rfl 0 (by decide) (ht _ wf_RX9_83) rfl rfl (by decide +kernel) (vp_nar_int _) rfl (Nat.le_of_ble_eq_true rfl) (by rw [mk4 (ke12 (ks1_3 (ks9_2 kh)) (vp_lt (by rw [(ln1_3 (ks9_2 kh))]; exact c_5)))]; simp [mu]) dX9_start_62 (fun M_6 H locs eM_6 hP hS => ?_)
        have hw := hw M_6 eM_6
        refine lv_aload_n hx hb dX9_start_65 rfl (lv_at hl 0 rfl) ?_
        refine mw_get (ci := 9) (v := .ref (G.1 + (h + 69))) (C := RX9) (T := TX9) (N := 8) hx hb ht inX9 hown hSt hP kh (by decide) (mk9 kh) rfl 2 (by decide) (ht _ wf_RX9_22) rfl rfl dX9_start_66 ?_
        refine lv_iload_n hx hb dX9_start_69 rfl (lv_at hl 2 rfl) ?_
        refine mw_V (As := [.int v2]) (rest := []) (T := TX1) (N := 9) (n := 1) ⟨hx, hb, hml, hown, hts⟩ (so_X1_passHours l G (h + 69) v2 M_6 _ hw) wm_RX9_189 wi_yX1_passHours wv_yX1_passHours wn_RX1 wc_yX1_passHours (by decide) ⟨Nat.le_of_ble_eq_true rfl, Nat.le_of_ble_eq_true rfl⟩ ⟨rfl, rfl⟩ (ks9_2 kh) (by decide) (mk1 (ks9_2 kh)) rfl hSt hTb hP hS rfl hl.1 rfl (Nat.le_of_ble_eq_true rfl) dX9_start_70 ⟨Nat.le_refl 0, Nat.le_refl 0⟩ (fun rr_ M_7 H locs hq hP hS => ?_)
        obtain ⟨rfl, hw⟩ := hq
        refine lv_aload_n hx hb dX9_start_73 rfl (lv_at hl 0 rfl) ?_
        refine mw_get (ci := 9) (v := .ref (G.1 + (h + 69))) (C := RX9) (T := TX9) (N := 8) hx hb ht inX9 hown hSt hP kh (by decide) (mk9 kh) rfl 2 (by decide) (ht _ wf_RX9_22) rfl rfl dX9_start_74 ?_
        refine mw_V (As := []) (rest := []) (T := TX1) (N := 9) (n := 0) ⟨hx, hb, hml, hown, hts⟩ (so_X1_foundSet l G (h + 69) M_7 _ hw) wm_RX9_193 wi_yX1_foundSet wv_yX1_foundSet wn_RX1 wc_yX1_foundSet (by decide) ⟨Nat.le_of_ble_eq_true rfl, Nat.le_of_ble_eq_true rfl⟩ ⟨rfl, rfl⟩ (ks9_2 kh) (by decide) (mk1 (ks9_2 kh)) rfl hSt hTb hP hS rfl hl.1 rfl (Nat.le_of_ble_eq_true rfl) dX9_start_77 ⟨Nat.le_refl 0, Nat.le_refl 0⟩ (fun rr_ M_8 H locs hq hP hS => ?_)
        obtain ⟨r_9, rfl, hw⟩ := hq
        refine mw_Sx (As := [.int r_9]) (rest := []) (n := 1) ⟨hx, hb, hml, hown, hts⟩ (so_J6_bitCount_0f7a4 l G r_9 M_8 _ hw) wm_RX9_210 wt_yJ6_bitCount_0f7a4 wn_RJ6 wc_yJ6_bitCount_0f7a4 (by decide) ⟨Nat.le_of_ble_eq_true rfl, Nat.le_of_ble_eq_true rfl⟩ ⟨rfl, rfl⟩ hSt hTb hP hS rfl hl.1 rfl (Nat.le_of_ble_eq_true rfl) dX9_start_80 ⟨Nat.le_refl 0, Nat.le_refl 0⟩ (fun rr_ M_10 H locs hq hP hS => ?_)
        obtain ⟨r_11, rfl, hw⟩ := hq
        refine lv_istore (lv' := [(7, .int r_11), (0, .ref (G.1 + h)), (1, .int v1), (2, .int v2), (3, .int v3), (4, .int v4), (5, .int v5), (6, .int v6)]) hx hb dX9_start_83 hl (by decide) rfl (fun ls hl => ?_)
        refine lv_iload hx hb dX9_start_85 (lv_at hl 0 rfl) ?_
        refine lv_iload hx hb dX9_start_87 (lv_at hl 6 rfl) ?_
        refine lv_icmp_le (tgt := 100) hx hb dX9_start_89 (by decide) (fun c_12 => ?_) (fun c_12 => ?_)
        · have hw := hw.1 c_12
          exact J_100 v4 v5 v6 M_10 _ _ _ hw hP hS (lv_sub hl [1, 2, 3, 4, 5, 6, 7] rfl)
        · have hw := hw.2 c_12
          refine lv_iload hx hb dX9_start_92 (lv_at hl 7 rfl) ?_
          refine lv_istore (lv' := [(4, .int v6), (7, .int r_11), (0, .ref (G.1 + h)), (1, .int v1), (2, .int v2), (3, .int v3), (5, .int v5), (6, .int v6)]) hx hb dX9_start_94 hl (by decide) rfl (fun ls hl => ?_)
          refine lv_iload hx hb dX9_start_96 (lv_at hl 1 rfl) ?_
          refine lv_istore (lv' := [(5, .int r_11), (4, .int v6), (7, .int r_11), (0, .ref (G.1 + h)), (1, .int v1), (2, .int v2), (3, .int v3), (6, .int v6)]) hx hb dX9_start_98 hl (by decide) rfl (fun ls hl => ?_)
          exact J_100 v6 r_11 v6 M_10 _ _ _ hw hP hS (lv_sub hl [3, 4, 5, 6, 1, 0, 7] rfl)
  have J_25 : ∀  (M : Mem) (H : Heap) (locs : List Loc) (ls : Array Slot), b_X9_start_25 h Q M → va_P G.2.1 clsA (wl G M) H → va_S (inW G) s.heap H locs → lv_has ls 8 [(0, .ref (G.1 + h))] → W p l e ({ frames := 6, cells := 0, slots := 0, locals := 167 } : Room) s m ([.ref (G.1 + h), .int a1, .int a2, .int a3] : List Value).toArray below meth c H locs 0 0 (MQ below (Pq G (Qi Q)) ([.ref (G.1 + h), .int a1, .int a2, .int a3] : List Value).toArray s 0 0 (inW G)) (F0 m 25 ls []) := by
    intro  M H locs ls  hw hP hS hl
    unfold b_X9_start_25 at hw
    refine lv_aload_n hx hb dX9_start_25 rfl (lv_at hl 0 rfl) ?_
    refine lv_iconst (v := 1) hx hb dX9_start_26 (by decide) ?_
    refine mw_V (As := [.int 1]) (rest := []) (T := TX9) (N := 8) (n := 1) ⟨hx, hb, hml, hown, hts⟩ (so_X9_refuse l G h 1 M _ hw) wm_RX9_59 wi_yX9_refuse wv_yX9_refuse wn_RX9 wc_yX9_refuse (by decide) ⟨Nat.le_of_ble_eq_true rfl, Nat.le_of_ble_eq_true rfl⟩ ⟨rfl, rfl⟩ kh (by decide) (mk9 kh) rfl hSt hTb hP hS rfl hl.1 rfl (Nat.le_of_ble_eq_true rfl) dX9_start_27 ⟨Nat.le_refl 0, Nat.le_refl 0⟩ (fun rr_ M_13 H locs hq hP hS => ?_)
    obtain ⟨r_14, rfl, hw⟩ := hq
    exact W.iret hx hb hr (mw_end hP hSt hTb hS ⟨_, rfl, hw⟩) hS.2.2 dX9_start_30
  refine lv_aload_n hx hb dX9_start_0 rfl (lv_at hl 0 rfl) ?_
  refine lv_iload_n hx hb dX9_start_1 rfl (lv_at hl 1 rfl) ?_
  refine mw_V (As := [.int a1]) (rest := []) (T := TX9) (N := 8) (n := 1) ⟨hx, hb, hml, hown, hts⟩ (so_X9_isSeeker l G h a1 M _ hw) wm_RX9_91 wi_yX9_isSeeker wv_yX9_isSeeker wn_RX9 wc_yX9_isSeeker (by decide) ⟨Nat.le_of_ble_eq_true rfl, Nat.le_of_ble_eq_true rfl⟩ ⟨rfl, rfl⟩ kh (by decide) (mk9 kh) rfl hSt hTb hP hS rfl hl.1 rfl (Nat.le_of_ble_eq_true rfl) dX9_start_2 ⟨Nat.le_refl 0, Nat.le_refl 0⟩ (fun rr_ M_15 H locs hq hP hS => ?_)
  obtain ⟨r_16, rfl, hw⟩ := hq
  refine lv_if_eq (tgt := 25) hx hb dX9_start_5 (by decide) (fun c_17 => ?_) (fun c_17 => ?_)
  · have hw := hw.1 c_17
    exact J_25 M_15 _ _ _ hw hP hS (lv_sub hl [0] rfl)
  · have hw := hw.2 c_17
    refine lv_iload_n hx hb dX9_start_8 rfl (lv_at hl 2 rfl) ?_
    refine lv_bipush (v := 20) hx hb dX9_start_9 (by decide) ?_
    refine mw_Sx (As := [.int a2, .int 20]) (rest := []) (n := 2) ⟨hx, hb, hml, hown, hts⟩ (so_X9_isWithin l G a2 20 M_15 _ hw) wm_RX9_55 wt_yX9_isWithin wn_RX9 wc_yX9_isWithin (by decide) ⟨Nat.le_of_ble_eq_true rfl, Nat.le_of_ble_eq_true rfl⟩ ⟨rfl, rfl⟩ hSt hTb hP hS rfl hl.1 rfl (Nat.le_of_ble_eq_true rfl) dX9_start_11 ⟨Nat.le_refl 0, Nat.le_refl 0⟩ (fun rr_ M_18 H locs hq hP hS => ?_)
    obtain ⟨r_19, rfl, hw⟩ := hq
    refine lv_if_eq (tgt := 25) hx hb dX9_start_14 (by decide) (fun c_20 => ?_) (fun c_20 => ?_)
    · have hw := hw.1 c_20
      exact J_25 M_18 _ _ _ hw hP hS (lv_sub hl [0] rfl)
    · have hw := hw.2 c_20
      refine lv_iload_n hx hb dX9_start_17 rfl (lv_at hl 3 rfl) ?_
      refine lv_iconst (v := 1) hx hb dX9_start_18 (by decide) ?_
      refine mw_Sx (As := [.int a3, .int 1]) (rest := []) (n := 2) ⟨hx, hb, hml, hown, hts⟩ (so_X9_isWithin l G a3 1 M_18 _ hw) wm_RX9_55 wt_yX9_isWithin wn_RX9 wc_yX9_isWithin (by decide) ⟨Nat.le_of_ble_eq_true rfl, Nat.le_of_ble_eq_true rfl⟩ ⟨rfl, rfl⟩ hSt hTb hP hS rfl hl.1 rfl (Nat.le_of_ble_eq_true rfl) dX9_start_19 ⟨Nat.le_refl 0, Nat.le_refl 0⟩ (fun rr_ M_21 H locs hq hP hS => ?_)
      obtain ⟨r_22, rfl, hw⟩ := hq
      refine lv_if_ne (tgt := 31) hx hb dX9_start_22 (by decide) (fun c_23 => ?_) (fun c_23 => ?_)
      · have hw := hw.1 c_23
        refine lv_iconst (v := 0) hx hb dX9_start_31 (by decide) ?_
        refine lv_istore (lv' := [(4, .int 0), (0, .ref (G.1 + h)), (1, .int a1), (2, .int a2), (3, .int a3)]) hx hb dX9_start_32 hl (by decide) rfl (fun ls hl => ?_)
        refine lv_iconst (v := (-1)) hx hb dX9_start_34 (by decide) ?_
        refine lv_istore (lv' := [(5, .int (-1)), (4, .int 0), (0, .ref (G.1 + h)), (1, .int a1), (2, .int a2), (3, .int a3)]) hx hb dX9_start_35 hl (by decide) rfl (fun ls hl => ?_)
        refine lv_iconst (v := 0) hx hb dX9_start_37 (by decide) ?_
        refine lv_istore (lv' := [(6, .int 0), (5, .int (-1)), (4, .int 0), (0, .ref (G.1 + h)), (1, .int a1), (2, .int a2), (3, .int a3)]) hx hb dX9_start_38 hl (by decide) rfl (fun ls hl => ?_)
        obtain ⟨n_, hw⟩ := hw
        exact L_40 a1 a2 a3 n_ 0 (-1) 0 M_21 _ _ _ hw hP hS (lv_sub hl [3, 4, 5, 6, 2, 1, 0] rfl)
      · have hw := hw.2 c_23
        exact J_25 M_21 _ _ _ hw hP hS (lv_sub hl [0] rfl)
def b_X9_missed_113 (h : Nat) (Q : Int32 → Mem → Prop) (K51 : Int32 → Int32 → Int32 → Mem → Prop) (v1 : Int32) (v2 : Int32) (v3 : Int32) (v4 : Int32) (v5 : Int32) (M : Mem) : Prop :=
  ∀ x_1 : Int32, x_1 = v5 + 1 → K51 v3 v4 x_1 M
def B_X9_missed_51 (h : Nat) (Q : Int32 → Mem → Prop) (v1 : Int32) (v2 : Int32) (K51 : Int32 → Int32 → Int32 → Mem → Prop) (v3 : Int32) (v4 : Int32) (v5 : Int32) (M : Mem) : Prop :=
  ((M (h + 1 + 1) 6) ≤ v5 → (¬ v2 = 0 → Q v4 M) ∧ (v2 = 0 → Q v3 M)) ∧ (¬ (M (h + 1 + 1) 6) ≤ v5 → wp_X9_thinkFromNow h M (fun M_4 => wp_X1_takeFromMarks (h + 69) v5 M_4 (fun M_5 => wp_X1_passHours (h + 69) v1 M_5 (fun M_6 => wp_X1_foundSet (h + 69) M_6 (fun r_8 M_7 => wp_J6_bitCount_0f7a4 r_8 M_7 (fun r_10 M_9 => (v4 ≤ r_10 → b_X9_missed_113 h Q K51 v1 v2 v3 v4 v5 M_9) ∧ (¬ v4 ≤ r_10 → b_X9_missed_113 h Q K51 v1 v2 v5 r_10 v5 M_9)))))))
def l_X9_missed_51 (h : Nat) (Q : Int32 → Mem → Prop) (v1 : Int32) (v2 : Int32) : Nat → Int32 → Int32 → Int32 → Mem → Prop
  | 0 => fun _ _ _ _ => False
  | n + 1 => B_X9_missed_51 h Q v1 v2 (l_X9_missed_51 h Q v1 v2 n)
def b_X9_missed_17 (h : Nat) (Q : Int32 → Mem → Prop) (M : Mem) : Prop :=
  wp_X9_refuse h 1 M (fun r_13 M_12 => Q r_13 M_12)
def wp_X9_missed (h : Nat) (a1 : Int32) (a2 : Int32) (M : Mem) (Q : Int32 → Mem → Prop) : Prop :=
  kdT h = 9 ∧ (wp_X9_isWithin a1 60 M (fun r_15 M_14 => (r_15 = 0 → b_X9_missed_17 h Q M_14) ∧ (¬ r_15 = 0 → wp_X9_isWithin a2 1 M_14 (fun r_18 M_17 => (¬ r_18 = 0 → (¬ (M_17 (h + 1 + 1) 6) = 0 → ∃ n, l_X9_missed_51 h Q a1 a2 n 0 8 0 M_17) ∧ ((M_17 (h + 1 + 1) 6) = 0 → wp_X9_refuse h 2 M_17 (fun r_22 M_21 => Q r_22 M_21))) ∧ (r_18 = 0 → b_X9_missed_17 h Q M_17)))))
set_option maxHeartbeats 4000000 in
set_option maxRecDepth 100000 in
theorem so_X9_missed (l : Launch) (G : Gm) (h : Nat) (a1 : Int32) (a2 : Int32) (M : Mem) (Q : Int32 → Mem → Prop) (hw : wp_X9_missed h a1 a2 M Q) : Ct l G yX9_missed cX9_missed 7 (some .int) ({ frames := 6, cells := 0, slots := 0, locals := 167 } : Room) [.ref (G.1 + h), .int a1, .int a2] M (Qi Q) := by
  unfold wp_X9_missed at hw
  obtain ⟨kh, hw⟩ := hw
  refine ct_of (by decide) (Nat.le_of_ble_eq_true rfl) ?_
  intro p e s m below meth c E_ ls H hl hP hS
  obtain ⟨hx, hb, hml, hown, hts, ht, hr, hlocks, hSt, hTb⟩ := E_
  have hl : lv_has ls 7 [(0, .ref (G.1 + h)), (1, .int a1), (2, .int a2)] := hl
  have L_51 : ∀ (v1 : Int32) (v2 : Int32), ∀ (n51 : Nat) (v3 : Int32) (v4 : Int32) (v5 : Int32) (M : Mem) (H : Heap) (locs : List Loc) (ls : Array Slot), l_X9_missed_51 h Q v1 v2 n51 v3 v4 v5 M → va_P G.2.1 clsA (wl G M) H → va_S (inW G) s.heap H locs → lv_has ls 7 [(0, .ref (G.1 + h)), (1, .int v1), (2, .int v2), (3, .int v3), (4, .int v4), (5, .int v5)] → W p l e ({ frames := 6, cells := 0, slots := 0, locals := 167 } : Room) s m ([.ref (G.1 + h), .int a1, .int a2] : List Value).toArray below meth c H locs 0 0 (MQ below (Pq G (Qi Q)) ([.ref (G.1 + h), .int a1, .int a2] : List Value).toArray s 0 0 (inW G)) (F0 m 51 ls []) := by
    intro v1 v2  n51
    induction n51 with
    | zero => intro v3 v4 v5 M H locs ls  hw hP hS hl; exact False.elim hw
    | succ n51 ih51 =>
      have J_113 : ∀ (v3 : Int32) (v4 : Int32) (v5 : Int32) (M : Mem) (H : Heap) (locs : List Loc) (ls : Array Slot), b_X9_missed_113 h Q (l_X9_missed_51 h Q v1 v2 n51) v1 v2 v3 v4 v5 M → va_P G.2.1 clsA (wl G M) H → va_S (inW G) s.heap H locs → lv_has ls 7 [(0, .ref (G.1 + h)), (1, .int v1), (2, .int v2), (3, .int v3), (4, .int v4), (5, .int v5)] → W p l e ({ frames := 6, cells := 0, slots := 0, locals := 167 } : Room) s m ([.ref (G.1 + h), .int a1, .int a2] : List Value).toArray below meth c H locs 0 0 (MQ below (Pq G (Qi Q)) ([.ref (G.1 + h), .int a1, .int a2] : List Value).toArray s 0 0 (inW G)) (F0 m 113 ls []) := by
        intro v3 v4 v5 M H locs ls  hw hP hS hl
        unfold b_X9_missed_113 at hw
        obtain ⟨x_1, ex_1⟩ : ∃ z : Int32, z = v5 + 1 := ⟨_, rfl⟩
        have hw := hw x_1 ex_1
        refine lv_iinc (v := x_1) (lv' := [(5, .int x_1), (0, .ref (G.1 + h)), (1, .int v1), (2, .int v2), (3, .int v3), (4, .int v4)]) hx hb dX9_missed_113 hl (k := 5) rfl (by rw [ex_1]; rfl) (by decide) rfl (fun ls hl => ?_)
        refine lv_goto (tgt := 51) hx hb dX9_missed_116 (by decide) ?_
        exact ih51 v3 v4 x_1 M _ _ _ hw hP hS (lv_sub hl [1, 2, 3, 4, 5, 0] rfl)
      intro v3 v4 v5 M H locs ls  hw hP hS hl
      have hw : B_X9_missed_51 h Q v1 v2 (l_X9_missed_51 h Q v1 v2 n51) v3 v4 v5 M := hw
      unfold B_X9_missed_51 at hw
      refine lv_iload hx hb dX9_missed_51 (lv_at hl 5 rfl) ?_
      refine lv_aload_n hx hb dX9_missed_53 rfl (lv_at hl 0 rfl) ?_
      refine mw_get (ci := 9) (v := .ref (G.1 + (h + 1))) (C := RX9) (T := TX9) (N := 8) hx hb ht inX9 hown hSt hP kh (by decide) (mk9 kh) rfl 0 (by decide) (ht _ wf_RX9_10) rfl rfl dX9_missed_54 ?_
      refine mw_get (ci := 8) (v := .ref (G.1 + (h + 1 + 1))) (C := RX8) (T := TX8) (N := 4) hx hb ht inX8 hown hSt hP (ks9_0 kh) (by decide) (mk8 (ks9_0 kh)) rfl 0 (by decide) (ht _ wf_RX9_63) rfl rfl dX9_missed_57 ?_
      refine mw_get (ci := 1) (v := .int (M (h + 1 + 1) 6)) (C := RX1) (T := TX1) (N := 9) hx hb ht inX1 hown hSt hP (ks8_0 (ks9_0 kh)) (by decide) (mk1 (ks8_0 (ks9_0 kh))) rfl 6 (by decide) (ht _ wf_RX9_75) rfl rfl dX9_missed_60 ?_
      refine lv_icmp_ge (tgt := 119) hx hb dX9_missed_63 (by decide) (fun c_2 => ?_) (fun c_2 => ?_)
      · have hw := hw.1 c_2
        refine lv_iload_n hx hb dX9_missed_119 rfl (lv_at hl 2 rfl) ?_
        refine lv_if_ne (tgt := 127) hx hb dX9_missed_120 (by decide) (fun c_3 => ?_) (fun c_3 => ?_)
        · have hw := hw.1 c_3
          refine lv_iload hx hb dX9_missed_127 (lv_at hl 4 rfl) ?_
          exact W.iret hx hb hr (mw_end hP hSt hTb hS ⟨_, rfl, hw⟩) hS.2.2 dX9_missed_129
        · have hw := hw.2 c_3
          refine lv_iload_n hx hb dX9_missed_123 rfl (lv_at hl 3 rfl) ?_
          refine lv_goto (tgt := 129) hx hb dX9_missed_124 (by decide) ?_
          exact W.iret hx hb hr (mw_end hP hSt hTb hS ⟨_, rfl, hw⟩) hS.2.2 dX9_missed_129
      · have hw := hw.2 c_2
        refine lv_aload_n hx hb dX9_missed_66 rfl (lv_at hl 0 rfl) ?_
        refine mw_V (As := []) (rest := []) (T := TX9) (N := 8) (n := 0) ⟨hx, hb, hml, hown, hts⟩ (so_X9_thinkFromNow l G h M _ hw) wm_RX9_200 wi_yX9_thinkFromNow wv_yX9_thinkFromNow wn_RX9 wc_yX9_thinkFromNow (by decide) ⟨Nat.le_of_ble_eq_true rfl, Nat.le_of_ble_eq_true rfl⟩ ⟨rfl, rfl⟩ kh (by decide) (mk9 kh) rfl hSt hTb hP hS rfl hl.1 rfl (Nat.le_of_ble_eq_true rfl) dX9_missed_67 ⟨Nat.le_refl 0, Nat.le_refl 0⟩ (fun rr_ M_4 H locs hq hP hS => ?_)
        obtain ⟨rfl, hw⟩ := hq
        refine lv_aload_n hx hb dX9_missed_70 rfl (lv_at hl 0 rfl) ?_
        refine mw_get (ci := 9) (v := .ref (G.1 + (h + 69))) (C := RX9) (T := TX9) (N := 8) hx hb ht inX9 hown hSt hP kh (by decide) (mk9 kh) rfl 2 (by decide) (ht _ wf_RX9_22) rfl rfl dX9_missed_71 ?_
        refine lv_iload hx hb dX9_missed_74 (lv_at hl 5 rfl) ?_
        refine mw_V (As := [.int v5]) (rest := []) (T := TX1) (N := 9) (n := 1) ⟨hx, hb, hml, hown, hts⟩ (so_X1_takeFromMarks l G (h + 69) v5 M_4 _ hw) wm_RX9_215 wi_yX1_takeFromMarks wv_yX1_takeFromMarks wn_RX1 wc_yX1_takeFromMarks (by decide) ⟨Nat.le_of_ble_eq_true rfl, Nat.le_of_ble_eq_true rfl⟩ ⟨rfl, rfl⟩ (ks9_2 kh) (by decide) (mk1 (ks9_2 kh)) rfl hSt hTb hP hS rfl hl.1 rfl (Nat.le_of_ble_eq_true rfl) dX9_missed_76 ⟨Nat.le_refl 0, Nat.le_refl 0⟩ (fun rr_ M_5 H locs hq hP hS => ?_)
        obtain ⟨rfl, hw⟩ := hq
        refine lv_aload_n hx hb dX9_missed_79 rfl (lv_at hl 0 rfl) ?_
        refine mw_get (ci := 9) (v := .ref (G.1 + (h + 69))) (C := RX9) (T := TX9) (N := 8) hx hb ht inX9 hown hSt hP kh (by decide) (mk9 kh) rfl 2 (by decide) (ht _ wf_RX9_22) rfl rfl dX9_missed_80 ?_
        refine lv_iload_n hx hb dX9_missed_83 rfl (lv_at hl 1 rfl) ?_
        refine mw_V (As := [.int v1]) (rest := []) (T := TX1) (N := 9) (n := 1) ⟨hx, hb, hml, hown, hts⟩ (so_X1_passHours l G (h + 69) v1 M_5 _ hw) wm_RX9_189 wi_yX1_passHours wv_yX1_passHours wn_RX1 wc_yX1_passHours (by decide) ⟨Nat.le_of_ble_eq_true rfl, Nat.le_of_ble_eq_true rfl⟩ ⟨rfl, rfl⟩ (ks9_2 kh) (by decide) (mk1 (ks9_2 kh)) rfl hSt hTb hP hS rfl hl.1 rfl (Nat.le_of_ble_eq_true rfl) dX9_missed_84 ⟨Nat.le_refl 0, Nat.le_refl 0⟩ (fun rr_ M_6 H locs hq hP hS => ?_)
        obtain ⟨rfl, hw⟩ := hq
        refine lv_aload_n hx hb dX9_missed_87 rfl (lv_at hl 0 rfl) ?_
        refine mw_get (ci := 9) (v := .ref (G.1 + (h + 69))) (C := RX9) (T := TX9) (N := 8) hx hb ht inX9 hown hSt hP kh (by decide) (mk9 kh) rfl 2 (by decide) (ht _ wf_RX9_22) rfl rfl dX9_missed_88 ?_
        refine mw_V (As := []) (rest := []) (T := TX1) (N := 9) (n := 0) ⟨hx, hb, hml, hown, hts⟩ (so_X1_foundSet l G (h + 69) M_6 _ hw) wm_RX9_193 wi_yX1_foundSet wv_yX1_foundSet wn_RX1 wc_yX1_foundSet (by decide) ⟨Nat.le_of_ble_eq_true rfl, Nat.le_of_ble_eq_true rfl⟩ ⟨rfl, rfl⟩ (ks9_2 kh) (by decide) (mk1 (ks9_2 kh)) rfl hSt hTb hP hS rfl hl.1 rfl (Nat.le_of_ble_eq_true rfl) dX9_missed_91 ⟨Nat.le_refl 0, Nat.le_refl 0⟩ (fun rr_ M_7 H locs hq hP hS => ?_)
        obtain ⟨r_8, rfl, hw⟩ := hq
        refine mw_Sx (As := [.int r_8]) (rest := []) (n := 1) ⟨hx, hb, hml, hown, hts⟩ (so_J6_bitCount_0f7a4 l G r_8 M_7 _ hw) wm_RX9_210 wt_yJ6_bitCount_0f7a4 wn_RJ6 wc_yJ6_bitCount_0f7a4 (by decide) ⟨Nat.le_of_ble_eq_true rfl, Nat.le_of_ble_eq_true rfl⟩ ⟨rfl, rfl⟩ hSt hTb hP hS rfl hl.1 rfl (Nat.le_of_ble_eq_true rfl) dX9_missed_94 ⟨Nat.le_refl 0, Nat.le_refl 0⟩ (fun rr_ M_9 H locs hq hP hS => ?_)
        obtain ⟨r_10, rfl, hw⟩ := hq
        refine lv_istore (lv' := [(6, .int r_10), (0, .ref (G.1 + h)), (1, .int v1), (2, .int v2), (3, .int v3), (4, .int v4), (5, .int v5)]) hx hb dX9_missed_97 hl (by decide) rfl (fun ls hl => ?_)
        refine lv_iload hx hb dX9_missed_99 (lv_at hl 0 rfl) ?_
        refine lv_iload hx hb dX9_missed_101 (lv_at hl 5 rfl) ?_
        refine lv_icmp_ge (tgt := 113) hx hb dX9_missed_103 (by decide) (fun c_11 => ?_) (fun c_11 => ?_)
        · have hw := hw.1 c_11
          exact J_113 v3 v4 v5 M_9 _ _ _ hw hP hS (lv_sub hl [1, 2, 3, 4, 5, 6] rfl)
        · have hw := hw.2 c_11
          refine lv_iload hx hb dX9_missed_106 (lv_at hl 6 rfl) ?_
          refine lv_istore_n (lv' := [(3, .int v5), (6, .int r_10), (0, .ref (G.1 + h)), (1, .int v1), (2, .int v2), (4, .int v4), (5, .int v5)]) hx hb dX9_missed_108 rfl hl (by decide) rfl (fun ls hl => ?_)
          refine lv_iload hx hb dX9_missed_109 (lv_at hl 1 rfl) ?_
          refine lv_istore (lv' := [(4, .int r_10), (3, .int v5), (6, .int r_10), (0, .ref (G.1 + h)), (1, .int v1), (2, .int v2), (5, .int v5)]) hx hb dX9_missed_111 hl (by decide) rfl (fun ls hl => ?_)
          exact J_113 v5 r_10 v5 M_9 _ _ _ hw hP hS (lv_sub hl [3, 4, 5, 1, 0, 6] rfl)
  have J_17 : ∀  (M : Mem) (H : Heap) (locs : List Loc) (ls : Array Slot), b_X9_missed_17 h Q M → va_P G.2.1 clsA (wl G M) H → va_S (inW G) s.heap H locs → lv_has ls 7 [(0, .ref (G.1 + h))] → W p l e ({ frames := 6, cells := 0, slots := 0, locals := 167 } : Room) s m ([.ref (G.1 + h), .int a1, .int a2] : List Value).toArray below meth c H locs 0 0 (MQ below (Pq G (Qi Q)) ([.ref (G.1 + h), .int a1, .int a2] : List Value).toArray s 0 0 (inW G)) (F0 m 17 ls []) := by
    intro  M H locs ls  hw hP hS hl
    unfold b_X9_missed_17 at hw
    refine lv_aload_n hx hb dX9_missed_17 rfl (lv_at hl 0 rfl) ?_
    refine lv_iconst (v := 1) hx hb dX9_missed_18 (by decide) ?_
    refine mw_V (As := [.int 1]) (rest := []) (T := TX9) (N := 8) (n := 1) ⟨hx, hb, hml, hown, hts⟩ (so_X9_refuse l G h 1 M _ hw) wm_RX9_59 wi_yX9_refuse wv_yX9_refuse wn_RX9 wc_yX9_refuse (by decide) ⟨Nat.le_of_ble_eq_true rfl, Nat.le_of_ble_eq_true rfl⟩ ⟨rfl, rfl⟩ kh (by decide) (mk9 kh) rfl hSt hTb hP hS rfl hl.1 rfl (Nat.le_of_ble_eq_true rfl) dX9_missed_19 ⟨Nat.le_refl 0, Nat.le_refl 0⟩ (fun rr_ M_12 H locs hq hP hS => ?_)
    obtain ⟨r_13, rfl, hw⟩ := hq
    exact W.iret hx hb hr (mw_end hP hSt hTb hS ⟨_, rfl, hw⟩) hS.2.2 dX9_missed_22
  refine lv_iload_n hx hb dX9_missed_0 rfl (lv_at hl 1 rfl) ?_
  refine lv_bipush (v := 60) hx hb dX9_missed_1 (by decide) ?_
  refine mw_Sx (As := [.int a1, .int 60]) (rest := []) (n := 2) ⟨hx, hb, hml, hown, hts⟩ (so_X9_isWithin l G a1 60 M _ hw) wm_RX9_55 wt_yX9_isWithin wn_RX9 wc_yX9_isWithin (by decide) ⟨Nat.le_of_ble_eq_true rfl, Nat.le_of_ble_eq_true rfl⟩ ⟨rfl, rfl⟩ hSt hTb hP hS rfl hl.1 rfl (Nat.le_of_ble_eq_true rfl) dX9_missed_3 ⟨Nat.le_refl 0, Nat.le_refl 0⟩ (fun rr_ M_14 H locs hq hP hS => ?_)
  obtain ⟨r_15, rfl, hw⟩ := hq
  refine lv_if_eq (tgt := 17) hx hb dX9_missed_6 (by decide) (fun c_16 => ?_) (fun c_16 => ?_)
  · have hw := hw.1 c_16
    exact J_17 M_14 _ _ _ hw hP hS (lv_sub hl [0] rfl)
  · have hw := hw.2 c_16
    refine lv_iload_n hx hb dX9_missed_9 rfl (lv_at hl 2 rfl) ?_
    refine lv_iconst (v := 1) hx hb dX9_missed_10 (by decide) ?_
    refine mw_Sx (As := [.int a2, .int 1]) (rest := []) (n := 2) ⟨hx, hb, hml, hown, hts⟩ (so_X9_isWithin l G a2 1 M_14 _ hw) wm_RX9_55 wt_yX9_isWithin wn_RX9 wc_yX9_isWithin (by decide) ⟨Nat.le_of_ble_eq_true rfl, Nat.le_of_ble_eq_true rfl⟩ ⟨rfl, rfl⟩ hSt hTb hP hS rfl hl.1 rfl (Nat.le_of_ble_eq_true rfl) dX9_missed_11 ⟨Nat.le_refl 0, Nat.le_refl 0⟩ (fun rr_ M_17 H locs hq hP hS => ?_)
    obtain ⟨r_18, rfl, hw⟩ := hq
    refine lv_if_ne (tgt := 23) hx hb dX9_missed_14 (by decide) (fun c_19 => ?_) (fun c_19 => ?_)
    · have hw := hw.1 c_19
      refine lv_aload_n hx hb dX9_missed_23 rfl (lv_at hl 0 rfl) ?_
      refine mw_get (ci := 9) (v := .ref (G.1 + (h + 1))) (C := RX9) (T := TX9) (N := 8) hx hb ht inX9 hown hSt hP kh (by decide) (mk9 kh) rfl 0 (by decide) (ht _ wf_RX9_10) rfl rfl dX9_missed_24 ?_
      refine mw_get (ci := 8) (v := .ref (G.1 + (h + 1 + 1))) (C := RX8) (T := TX8) (N := 4) hx hb ht inX8 hown hSt hP (ks9_0 kh) (by decide) (mk8 (ks9_0 kh)) rfl 0 (by decide) (ht _ wf_RX9_63) rfl rfl dX9_missed_27 ?_
      refine mw_get (ci := 1) (v := .int (M_17 (h + 1 + 1) 6)) (C := RX1) (T := TX1) (N := 9) hx hb ht inX1 hown hSt hP (ks8_0 (ks9_0 kh)) (by decide) (mk1 (ks8_0 (ks9_0 kh))) rfl 6 (by decide) (ht _ wf_RX9_75) rfl rfl dX9_missed_30 ?_
      refine lv_if_ne (tgt := 42) hx hb dX9_missed_33 (by decide) (fun c_20 => ?_) (fun c_20 => ?_)
      · have hw := hw.1 c_20
        refine lv_iconst (v := 0) hx hb dX9_missed_42 (by decide) ?_
        refine lv_istore_n (lv' := [(3, .int 0), (0, .ref (G.1 + h)), (1, .int a1), (2, .int a2)]) hx hb dX9_missed_43 rfl hl (by decide) rfl (fun ls hl => ?_)
        refine lv_bipush (v := 8) hx hb dX9_missed_44 (by decide) ?_
        refine lv_istore (lv' := [(4, .int 8), (3, .int 0), (0, .ref (G.1 + h)), (1, .int a1), (2, .int a2)]) hx hb dX9_missed_46 hl (by decide) rfl (fun ls hl => ?_)
        refine lv_iconst (v := 0) hx hb dX9_missed_48 (by decide) ?_
        refine lv_istore (lv' := [(5, .int 0), (4, .int 8), (3, .int 0), (0, .ref (G.1 + h)), (1, .int a1), (2, .int a2)]) hx hb dX9_missed_49 hl (by decide) rfl (fun ls hl => ?_)
        obtain ⟨n_, hw⟩ := hw
        exact L_51 a1 a2 n_ 0 8 0 M_17 _ _ _ hw hP hS (lv_sub hl [3, 4, 5, 2, 1, 0] rfl)
      · have hw := hw.2 c_20
        refine lv_aload_n hx hb dX9_missed_36 rfl (lv_at hl 0 rfl) ?_
        refine lv_iconst (v := 2) hx hb dX9_missed_37 (by decide) ?_
        refine mw_V (As := [.int 2]) (rest := []) (T := TX9) (N := 8) (n := 1) ⟨hx, hb, hml, hown, hts⟩ (so_X9_refuse l G h 2 M_17 _ hw) wm_RX9_59 wi_yX9_refuse wv_yX9_refuse wn_RX9 wc_yX9_refuse (by decide) ⟨Nat.le_of_ble_eq_true rfl, Nat.le_of_ble_eq_true rfl⟩ ⟨rfl, rfl⟩ kh (by decide) (mk9 kh) rfl hSt hTb hP hS rfl hl.1 rfl (Nat.le_of_ble_eq_true rfl) dX9_missed_38 ⟨Nat.le_refl 0, Nat.le_refl 0⟩ (fun rr_ M_21 H locs hq hP hS => ?_)
        obtain ⟨r_22, rfl, hw⟩ := hq
        exact W.iret hx hb hr (mw_end hP hSt hTb hS ⟨_, rfl, hw⟩) hS.2.2 dX9_missed_41
    · have hw := hw.2 c_19
      exact J_17 M_17 _ _ _ hw hP hS (lv_sub hl [0] rfl)
def b_X9_nobody_51 (h : Nat) (Q : Int32 → Mem → Prop) (K13 : Int32 → Int32 → Mem → Prop) (v1 : Int32) (v2 : Int32) (M : Mem) : Prop :=
  ∀ x_1 : Int32, x_1 = v2 + 1 → K13 v1 x_1 M
def B_X9_nobody_13 (h : Nat) (Q : Int32 → Mem → Prop) (K13 : Int32 → Int32 → Mem → Prop) (v1 : Int32) (v2 : Int32) (M : Mem) : Prop :=
  ((M (h + 1 + 1) 6) ≤ v2 → Q v1 M) ∧ (¬ (M (h + 1 + 1) 6) ≤ v2 → wp_X1_outFor (h + 1 + 1) v2 M (fun r_4 M_3 => (r_4 < 0 → b_X9_nobody_51 h Q K13 v1 v2 M_3) ∧ (¬ r_4 < 0 → ∀ x_6, x_6 = v1 &&& ((ish 1 r_4) ^^^ (-1)) → b_X9_nobody_51 h Q K13 x_6 v2 M_3)))
def l_X9_nobody_13 (h : Nat) (Q : Int32 → Mem → Prop) : Nat → Int32 → Int32 → Mem → Prop
  | 0 => fun _ _ _ => False
  | n + 1 => B_X9_nobody_13 h Q (l_X9_nobody_13 h Q n)
def wp_X9_nobody (h : Nat) (M : Mem) (Q : Int32 → Mem → Prop) : Prop :=
  kdT h = 9 ∧ (wp_X1_soughtSet (h + 1 + 1) M (fun r_8 M_7 => ∃ n, l_X9_nobody_13 h Q n r_8 0 M_7))
set_option maxHeartbeats 4000000 in
set_option maxRecDepth 100000 in
theorem so_X9_nobody (l : Launch) (G : Gm) (h : Nat) (M : Mem) (Q : Int32 → Mem → Prop) (hw : wp_X9_nobody h M Q) : Ct l G yX9_nobody cX9_nobody 4 (some .int) ({ frames := 4, cells := 0, slots := 0, locals := 110 } : Room) [.ref (G.1 + h)] M (Qi Q) := by
  unfold wp_X9_nobody at hw
  obtain ⟨kh, hw⟩ := hw
  refine ct_of (by decide) (Nat.le_of_ble_eq_true rfl) ?_
  intro p e s m below meth c E_ ls H hl hP hS
  obtain ⟨hx, hb, hml, hown, hts, ht, hr, hlocks, hSt, hTb⟩ := E_
  have hl : lv_has ls 4 [(0, .ref (G.1 + h))] := hl
  have L_13 : ∀ (n13 : Nat) (v1 : Int32) (v2 : Int32) (M : Mem) (H : Heap) (locs : List Loc) (ls : Array Slot), l_X9_nobody_13 h Q n13 v1 v2 M → va_P G.2.1 clsA (wl G M) H → va_S (inW G) s.heap H locs → lv_has ls 4 [(0, .ref (G.1 + h)), (1, .int v1), (2, .int v2)] → W p l e ({ frames := 4, cells := 0, slots := 0, locals := 110 } : Room) s m ([.ref (G.1 + h)] : List Value).toArray below meth c H locs 0 0 (MQ below (Pq G (Qi Q)) ([.ref (G.1 + h)] : List Value).toArray s 0 0 (inW G)) (F0 m 13 ls []) := by
    intro   n13
    induction n13 with
    | zero => intro v1 v2 M H locs ls  hw hP hS hl; exact False.elim hw
    | succ n13 ih13 =>
      have J_51 : ∀ (v1 : Int32) (v2 : Int32) (M : Mem) (H : Heap) (locs : List Loc) (ls : Array Slot), b_X9_nobody_51 h Q (l_X9_nobody_13 h Q n13) v1 v2 M → va_P G.2.1 clsA (wl G M) H → va_S (inW G) s.heap H locs → lv_has ls 4 [(0, .ref (G.1 + h)), (1, .int v1), (2, .int v2)] → W p l e ({ frames := 4, cells := 0, slots := 0, locals := 110 } : Room) s m ([.ref (G.1 + h)] : List Value).toArray below meth c H locs 0 0 (MQ below (Pq G (Qi Q)) ([.ref (G.1 + h)] : List Value).toArray s 0 0 (inW G)) (F0 m 51 ls []) := by
        intro v1 v2 M H locs ls  hw hP hS hl
        unfold b_X9_nobody_51 at hw
        obtain ⟨x_1, ex_1⟩ : ∃ z : Int32, z = v2 + 1 := ⟨_, rfl⟩
        have hw := hw x_1 ex_1
        refine lv_iinc (v := x_1) (lv' := [(2, .int x_1), (0, .ref (G.1 + h)), (1, .int v1)]) hx hb dX9_nobody_51 hl (k := 2) rfl (by rw [ex_1]; rfl) (by decide) rfl (fun ls hl => ?_)
        refine lv_goto (tgt := 13) hx hb dX9_nobody_54 (by decide) ?_
        exact ih13 v1 x_1 M _ _ _ hw hP hS (lv_sub hl [1, 2, 0] rfl)
      intro v1 v2 M H locs ls  hw hP hS hl
      have hw : B_X9_nobody_13 h Q (l_X9_nobody_13 h Q n13) v1 v2 M := hw
      unfold B_X9_nobody_13 at hw
      refine lv_iload_n hx hb dX9_nobody_13 rfl (lv_at hl 2 rfl) ?_
      refine lv_aload_n hx hb dX9_nobody_14 rfl (lv_at hl 0 rfl) ?_
      refine mw_get (ci := 9) (v := .ref (G.1 + (h + 1))) (C := RX9) (T := TX9) (N := 8) hx hb ht inX9 hown hSt hP kh (by decide) (mk9 kh) rfl 0 (by decide) (ht _ wf_RX9_10) rfl rfl dX9_nobody_15 ?_
      refine mw_get (ci := 8) (v := .ref (G.1 + (h + 1 + 1))) (C := RX8) (T := TX8) (N := 4) hx hb ht inX8 hown hSt hP (ks9_0 kh) (by decide) (mk8 (ks9_0 kh)) rfl 0 (by decide) (ht _ wf_RX9_63) rfl rfl dX9_nobody_18 ?_
      refine mw_get (ci := 1) (v := .int (M (h + 1 + 1) 6)) (C := RX1) (T := TX1) (N := 9) hx hb ht inX1 hown hSt hP (ks8_0 (ks9_0 kh)) (by decide) (mk1 (ks8_0 (ks9_0 kh))) rfl 6 (by decide) (ht _ wf_RX9_75) rfl rfl dX9_nobody_21 ?_
      refine lv_icmp_ge (tgt := 57) hx hb dX9_nobody_24 (by decide) (fun c_2 => ?_) (fun c_2 => ?_)
      · have hw := hw.1 c_2
        refine lv_iload_n hx hb dX9_nobody_57 rfl (lv_at hl 1 rfl) ?_
        exact W.iret hx hb hr (mw_end hP hSt hTb hS ⟨_, rfl, hw⟩) hS.2.2 dX9_nobody_58
      · have hw := hw.2 c_2
        refine lv_aload_n hx hb dX9_nobody_27 rfl (lv_at hl 0 rfl) ?_
        refine mw_get (ci := 9) (v := .ref (G.1 + (h + 1))) (C := RX9) (T := TX9) (N := 8) hx hb ht inX9 hown hSt hP kh (by decide) (mk9 kh) rfl 0 (by decide) (ht _ wf_RX9_10) rfl rfl dX9_nobody_28 ?_
        refine mw_get (ci := 8) (v := .ref (G.1 + (h + 1 + 1))) (C := RX8) (T := TX8) (N := 4) hx hb ht inX8 hown hSt hP (ks9_0 kh) (by decide) (mk8 (ks9_0 kh)) rfl 0 (by decide) (ht _ wf_RX9_63) rfl rfl dX9_nobody_31 ?_
        refine lv_iload_n hx hb dX9_nobody_34 rfl (lv_at hl 2 rfl) ?_
        refine mw_V (As := [.int v2]) (rest := []) (T := TX1) (N := 9) (n := 1) ⟨hx, hb, hml, hown, hts⟩ (so_X1_outFor l G (h + 1 + 1) v2 M _ hw) wm_RX9_94 wi_yX1_outFor wv_yX1_outFor wn_RX1 wc_yX1_outFor (by decide) ⟨Nat.le_of_ble_eq_true rfl, Nat.le_of_ble_eq_true rfl⟩ ⟨rfl, rfl⟩ (ks8_0 (ks9_0 kh)) (by decide) (mk1 (ks8_0 (ks9_0 kh))) rfl hSt hTb hP hS rfl hl.1 rfl (Nat.le_of_ble_eq_true rfl) dX9_nobody_35 ⟨Nat.le_refl 0, Nat.le_refl 0⟩ (fun rr_ M_3 H locs hq hP hS => ?_)
        obtain ⟨r_4, rfl, hw⟩ := hq
        refine lv_istore_n (lv' := [(3, .int r_4), (0, .ref (G.1 + h)), (1, .int v1), (2, .int v2)]) hx hb dX9_nobody_38 rfl hl (by decide) rfl (fun ls hl => ?_)
        refine lv_iload_n hx hb dX9_nobody_39 rfl (lv_at hl 0 rfl) ?_
        refine lv_if_lt (tgt := 51) hx hb dX9_nobody_40 (by decide) (fun c_5 => ?_) (fun c_5 => ?_)
        · have hw := hw.1 c_5
          exact J_51 v1 v2 M_3 _ _ _ hw hP hS (lv_sub hl [1, 2, 3] rfl)
        · have hw := hw.2 c_5
          refine lv_iload_n hx hb dX9_nobody_43 rfl (lv_at hl 2 rfl) ?_
          refine lv_iconst (v := 1) hx hb dX9_nobody_44 (by decide) ?_
          refine lv_iload_n hx hb dX9_nobody_45 rfl (lv_at hl 0 rfl) ?_
          refine lv_ishl hx hb dX9_nobody_46 ?_
          refine lv_iconst (v := (-1)) hx hb dX9_nobody_47 (by decide) ?_
          refine lv_ixor hx hb dX9_nobody_48 ?_
          refine lv_iand hx hb dX9_nobody_49 ?_
          refine lv_topi (fun x_6 ex_6 => ?_)
          have hw := hw x_6 ex_6
          refine lv_istore_n (lv' := [(1, .int x_6), (3, .int r_4), (0, .ref (G.1 + h)), (2, .int v2)]) hx hb dX9_nobody_50 rfl hl (by decide) rfl (fun ls hl => ?_)
          exact J_51 x_6 v2 M_3 _ _ _ hw hP hS (lv_sub hl [2, 0, 3] rfl)
  refine lv_aload_n hx hb dX9_nobody_0 rfl (lv_at hl 0 rfl) ?_
  refine mw_get (ci := 9) (v := .ref (G.1 + (h + 1))) (C := RX9) (T := TX9) (N := 8) hx hb ht inX9 hown hSt hP kh (by decide) (mk9 kh) rfl 0 (by decide) (ht _ wf_RX9_10) rfl rfl dX9_nobody_1 ?_
  refine mw_get (ci := 8) (v := .ref (G.1 + (h + 1 + 1))) (C := RX8) (T := TX8) (N := 4) hx hb ht inX8 hown hSt hP (ks9_0 kh) (by decide) (mk8 (ks9_0 kh)) rfl 0 (by decide) (ht _ wf_RX9_63) rfl rfl dX9_nobody_4 ?_
  refine mw_V (As := []) (rest := []) (T := TX1) (N := 9) (n := 0) ⟨hx, hb, hml, hown, hts⟩ (so_X1_soughtSet l G (h + 1 + 1) M _ hw) wm_RX9_218 wi_yX1_soughtSet wv_yX1_soughtSet wn_RX1 wc_yX1_soughtSet (by decide) ⟨Nat.le_of_ble_eq_true rfl, Nat.le_of_ble_eq_true rfl⟩ ⟨rfl, rfl⟩ (ks8_0 (ks9_0 kh)) (by decide) (mk1 (ks8_0 (ks9_0 kh))) rfl hSt hTb hP hS rfl hl.1 rfl (Nat.le_of_ble_eq_true rfl) dX9_nobody_7 ⟨Nat.le_refl 0, Nat.le_refl 0⟩ (fun rr_ M_7 H locs hq hP hS => ?_)
  obtain ⟨r_8, rfl, hw⟩ := hq
  refine lv_istore_n (lv' := [(1, .int r_8), (0, .ref (G.1 + h))]) hx hb dX9_nobody_10 rfl hl (by decide) rfl (fun ls hl => ?_)
  refine lv_iconst (v := 0) hx hb dX9_nobody_11 (by decide) ?_
  refine lv_istore_n (lv' := [(2, .int 0), (1, .int r_8), (0, .ref (G.1 + h))]) hx hb dX9_nobody_12 rfl hl (by decide) rfl (fun ls hl => ?_)
  obtain ⟨n_, hw⟩ := hw
  exact L_13 n_ r_8 0 M_7 _ _ _ hw hP hS (lv_sub hl [2, 1, 0] rfl)
def wp_X9_isSheet (a0 : Int32) (M : Mem) (Q : Int32 → Mem → Prop) : Prop :=
  wp_X9_isWithin a0 3 M (fun r_2 M_1 => isb r_2 ∧ Q r_2 M_1)
set_option maxHeartbeats 4000000 in
set_option maxRecDepth 100000 in
theorem so_X9_isSheet (l : Launch) (G : Gm) (a0 : Int32) (M : Mem) (Q : Int32 → Mem → Prop) (hw : wp_X9_isSheet a0 M Q) : Ct l G yX9_isSheet cX9_isSheet 1 (some .boolean) ({ frames := 1, cells := 0, slots := 0, locals := 21 } : Room) [.int a0] M (Qi Q) := by
  unfold wp_X9_isSheet at hw
  refine ct_of (by decide) (Nat.le_of_ble_eq_true rfl) ?_
  intro p e s m below meth c E_ ls H hl hP hS
  obtain ⟨hx, hb, hml, hown, hts, ht, hr, hlocks, hSt, hTb⟩ := E_
  have hl : lv_has ls 1 [(0, .int a0)] := hl
  refine lv_iload_n hx hb dX9_isSheet_0 rfl (lv_at hl 0 rfl) ?_
  refine lv_iconst (v := 3) hx hb dX9_isSheet_1 (by decide) ?_
  refine mw_Sx (As := [.int a0, .int 3]) (rest := []) (n := 2) ⟨hx, hb, hml, hown, hts⟩ (so_X9_isWithin l G a0 3 M _ hw) wm_RX9_55 wt_yX9_isWithin wn_RX9 wc_yX9_isWithin (by decide) ⟨Nat.le_of_ble_eq_true rfl, Nat.le_of_ble_eq_true rfl⟩ ⟨rfl, rfl⟩ hSt hTb hP hS rfl hl.1 rfl (Nat.le_of_ble_eq_true rfl) dX9_isSheet_2 ⟨Nat.le_refl 0, Nat.le_refl 0⟩ (fun rr_ M_1 H locs hq hP hS => ?_)
  obtain ⟨r_2, rfl, hw⟩ := hq
  obtain ⟨c_3, hw⟩ := hw
  exact W.zret hx hb hr c_3.narrow (mw_end hP hSt hTb hS ⟨_, rfl, hw⟩) hS.2.2 dX9_isSheet_5
def b_X9_lies_127 (h : Nat) (Q : Int32 → Mem → Prop) (K70 : Int32 → Int32 → Mem → Prop) (v2 : Int32) (v3 : Int32) (r4 : Nat) (v5 : Int32) (v6 : Int32) (M : Mem) : Prop :=
  ∀ x_1 : Int32, x_1 = v6 + 1 → K70 v5 x_1 M
def B_X9_lies_70 (h : Nat) (Q : Int32 → Mem → Prop) (v2 : Int32) (v3 : Int32) (r4 : Nat) (K70 : Int32 → Int32 → Mem → Prop) (v5 : Int32) (v6 : Int32) (M : Mem) : Prop :=
  (10 ≤ v6 → (¬ v3 = 0 → wp_J6_bitCount_0f7a4 v5 M (fun r_5 M_4 => Q r_5 M_4)) ∧ (v3 = 0 → Q v5 M)) ∧ (¬ 10 ≤ v6 → wp_X9_thinkFromNow h M (fun M_6 => vp_in v2 7 ∧ (∀ M_8, M_8 = mu M_6 (h + 69 + 13 + 9 + v2.toNatClampNeg) 2 v6 → wp_X1_passHours (h + 69) 1 M_8 (fun M_9 => wp_X1_hasSnowAs (h + 69) (r4 + 1) M_9 (fun r_11 M_10 => (r_11 = 0 → b_X9_lies_127 h Q K70 v2 v3 r4 v5 v6 M_10) ∧ (¬ r_11 = 0 → ∀ x_13, x_13 = v5 ||| (ish 1 v6) → b_X9_lies_127 h Q K70 v2 v3 r4 x_13 v6 M_10))))))
def l_X9_lies_70 (h : Nat) (Q : Int32 → Mem → Prop) (v2 : Int32) (v3 : Int32) (r4 : Nat) : Nat → Int32 → Int32 → Mem → Prop
  | 0 => fun _ _ _ => False
  | n + 1 => B_X9_lies_70 h Q v2 v3 r4 (l_X9_lies_70 h Q v2 v3 r4 n)
def b_X9_lies_58 (h : Nat) (Q : Int32 → Mem → Prop) (M : Mem) : Prop :=
  wp_X9_refuse h 2 M (fun r_15 M_14 => Q r_15 M_14)
def b_X9_lies_23 (h : Nat) (Q : Int32 → Mem → Prop) (M : Mem) : Prop :=
  wp_X9_refuse h 1 M (fun r_17 M_16 => Q r_17 M_16)
def wp_X9_lies (h : Nat) (a1 : Int32) (a2 : Int32) (a3 : Int32) (M : Mem) (Q : Int32 → Mem → Prop) : Prop :=
  kdT h = 9 ∧ (wp_X9_isSheet a1 M (fun r_19 M_18 => (r_19 = 0 → b_X9_lies_23 h Q M_18) ∧ (¬ r_19 = 0 → wp_X9_isSheep h a2 M_18 (fun r_22 M_21 => (r_22 = 0 → b_X9_lies_23 h Q M_21) ∧ (¬ r_22 = 0 → wp_X9_isWithin a3 1 M_21 (fun r_25 M_24 => (¬ r_25 = 0 → vp_in a1 4 ∧ (∀ q_28, q_28 = h + 106 + 2 + 3 * a1.toNatClampNeg → wp_X6_isMissing q_28 M_24 (fun r_30 M_29 => (¬ r_30 = 0 → b_X9_lies_58 h Q M_29) ∧ (r_30 = 0 → ((M_29 (q_28 + 1) 1) = 10 → ∃ n, l_X9_lies_70 h Q a2 a3 q_28 n 0 0 M_29) ∧ (¬ (M_29 (q_28 + 1) 1) = 10 → b_X9_lies_58 h Q M_29))))) ∧ (r_25 = 0 → b_X9_lies_23 h Q M_24)))))))
set_option maxHeartbeats 4000000 in
set_option maxRecDepth 100000 in
theorem so_X9_lies (l : Launch) (G : Gm) (h : Nat) (a1 : Int32) (a2 : Int32) (a3 : Int32) (M : Mem) (Q : Int32 → Mem → Prop) (hw : wp_X9_lies h a1 a2 a3 M Q) : Ct l G yX9_lies cX9_lies 7 (some .int) ({ frames := 6, cells := 0, slots := 0, locals := 167 } : Room) [.ref (G.1 + h), .int a1, .int a2, .int a3] M (Qi Q) := by
  unfold wp_X9_lies at hw
  obtain ⟨kh, hw⟩ := hw
  refine ct_of (by decide) (Nat.le_of_ble_eq_true rfl) ?_
  intro p e s m below meth c E_ ls H hl hP hS
  obtain ⟨hx, hb, hml, hown, hts, ht, hr, hlocks, hSt, hTb⟩ := E_
  have hl : lv_has ls 7 [(0, .ref (G.1 + h)), (1, .int a1), (2, .int a2), (3, .int a3)] := hl
  have L_70 : ∀ (v2 : Int32) (v3 : Int32) (r4 : Nat), kdT r4 = 6 → ∀ (n70 : Nat) (v5 : Int32) (v6 : Int32) (M : Mem) (H : Heap) (locs : List Loc) (ls : Array Slot), l_X9_lies_70 h Q v2 v3 r4 n70 v5 v6 M → va_P G.2.1 clsA (wl G M) H → va_S (inW G) s.heap H locs → lv_has ls 7 [(0, .ref (G.1 + h)), (2, .int v2), (3, .int v3), (4, .ref (G.1 + r4)), (5, .int v5), (6, .int v6)] → W p l e ({ frames := 6, cells := 0, slots := 0, locals := 167 } : Room) s m ([.ref (G.1 + h), .int a1, .int a2, .int a3] : List Value).toArray below meth c H locs 0 0 (MQ below (Pq G (Qi Q)) ([.ref (G.1 + h), .int a1, .int a2, .int a3] : List Value).toArray s 0 0 (inW G)) (F0 m 70 ls []) := by
    intro v2 v3 r4 kr4 n70
    induction n70 with
    | zero => intro v5 v6 M H locs ls  hw hP hS hl; exact False.elim hw
    | succ n70 ih70 =>
      have J_127 : ∀ (v5 : Int32) (v6 : Int32) (M : Mem) (H : Heap) (locs : List Loc) (ls : Array Slot), b_X9_lies_127 h Q (l_X9_lies_70 h Q v2 v3 r4 n70) v2 v3 r4 v5 v6 M → va_P G.2.1 clsA (wl G M) H → va_S (inW G) s.heap H locs → lv_has ls 7 [(0, .ref (G.1 + h)), (2, .int v2), (3, .int v3), (4, .ref (G.1 + r4)), (5, .int v5), (6, .int v6)] → W p l e ({ frames := 6, cells := 0, slots := 0, locals := 167 } : Room) s m ([.ref (G.1 + h), .int a1, .int a2, .int a3] : List Value).toArray below meth c H locs 0 0 (MQ below (Pq G (Qi Q)) ([.ref (G.1 + h), .int a1, .int a2, .int a3] : List Value).toArray s 0 0 (inW G)) (F0 m 127 ls []) := by
        intro v5 v6 M H locs ls  hw hP hS hl
        unfold b_X9_lies_127 at hw
        obtain ⟨x_1, ex_1⟩ : ∃ z : Int32, z = v6 + 1 := ⟨_, rfl⟩
        have hw := hw x_1 ex_1
        refine lv_iinc (v := x_1) (lv' := [(6, .int x_1), (0, .ref (G.1 + h)), (2, .int v2), (3, .int v3), (4, .ref (G.1 + r4)), (5, .int v5)]) hx hb dX9_lies_127 hl (k := 5) rfl (by rw [ex_1]; rfl) (by decide) rfl (fun ls hl => ?_)
        refine lv_goto (tgt := 70) hx hb dX9_lies_130 (by decide) ?_
        exact ih70 v5 x_1 M _ _ _ hw hP hS (lv_sub hl [1, 2, 3, 4, 5, 0] rfl)
      intro v5 v6 M H locs ls  hw hP hS hl
      have hw : B_X9_lies_70 h Q v2 v3 r4 (l_X9_lies_70 h Q v2 v3 r4 n70) v5 v6 M := hw
      unfold B_X9_lies_70 at hw
      refine lv_iload hx hb dX9_lies_70 (lv_at hl 5 rfl) ?_
      refine lv_bipush (v := 10) hx hb dX9_lies_72 (by decide) ?_
      refine lv_icmp_ge (tgt := 133) hx hb dX9_lies_74 (by decide) (fun c_2 => ?_) (fun c_2 => ?_)
      · have hw := hw.1 c_2
        refine lv_iload_n hx hb dX9_lies_133 rfl (lv_at hl 2 rfl) ?_
        refine lv_if_ne (tgt := 142) hx hb dX9_lies_134 (by decide) (fun c_3 => ?_) (fun c_3 => ?_)
        · have hw := hw.1 c_3
          refine lv_iload hx hb dX9_lies_142 (lv_at hl 4 rfl) ?_
          refine mw_Sx (As := [.int v5]) (rest := []) (n := 1) ⟨hx, hb, hml, hown, hts⟩ (so_J6_bitCount_0f7a4 l G v5 M _ hw) wm_RX9_210 wt_yJ6_bitCount_0f7a4 wn_RJ6 wc_yJ6_bitCount_0f7a4 (by decide) ⟨Nat.le_of_ble_eq_true rfl, Nat.le_of_ble_eq_true rfl⟩ ⟨rfl, rfl⟩ hSt hTb hP hS rfl hl.1 rfl (Nat.le_of_ble_eq_true rfl) dX9_lies_144 ⟨Nat.le_refl 0, Nat.le_refl 0⟩ (fun rr_ M_4 H locs hq hP hS => ?_)
          obtain ⟨r_5, rfl, hw⟩ := hq
          exact W.iret hx hb hr (mw_end hP hSt hTb hS ⟨_, rfl, hw⟩) hS.2.2 dX9_lies_147
        · have hw := hw.2 c_3
          refine lv_iload hx hb dX9_lies_137 (lv_at hl 4 rfl) ?_
          refine lv_goto (tgt := 147) hx hb dX9_lies_139 (by decide) ?_
          exact W.iret hx hb hr (mw_end hP hSt hTb hS ⟨_, rfl, hw⟩) hS.2.2 dX9_lies_147
      · have hw := hw.2 c_2
        refine lv_aload_n hx hb dX9_lies_77 rfl (lv_at hl 0 rfl) ?_
        refine mw_V (As := []) (rest := []) (T := TX9) (N := 8) (n := 0) ⟨hx, hb, hml, hown, hts⟩ (so_X9_thinkFromNow l G h M _ hw) wm_RX9_200 wi_yX9_thinkFromNow wv_yX9_thinkFromNow wn_RX9 wc_yX9_thinkFromNow (by decide) ⟨Nat.le_of_ble_eq_true rfl, Nat.le_of_ble_eq_true rfl⟩ ⟨rfl, rfl⟩ kh (by decide) (mk9 kh) rfl hSt hTb hP hS rfl hl.1 rfl (Nat.le_of_ble_eq_true rfl) dX9_lies_78 ⟨Nat.le_refl 0, Nat.le_refl 0⟩ (fun rr_ M_6 H locs hq hP hS => ?_)
        obtain ⟨rfl, hw⟩ := hq
        refine lv_aload_n hx hb dX9_lies_81 rfl (lv_at hl 0 rfl) ?_
        refine mw_get (ci := 9) (v := .ref (G.1 + (h + 69))) (C := RX9) (T := TX9) (N := 8) hx hb ht inX9 hown hSt hP kh (by decide) (mk9 kh) rfl 2 (by decide) (ht _ wf_RX9_22) rfl rfl dX9_lies_82 ?_
        refine mw_get (ci := 1) (v := .ref (G.1 + (h + 69 + 13))) (C := RX1) (T := TX1) (N := 9) hx hb ht inX1 hown hSt hP (ks9_2 kh) (by decide) (mk1 (ks9_2 kh)) rfl 4 (by decide) (ht _ wf_RX9_106) rfl rfl dX9_lies_85 ?_
        refine lv_iload_n hx hb dX9_lies_88 rfl (lv_at hl 1 rfl) ?_
        obtain ⟨c_7, hw⟩ := hw
        refine mw_aald13 hx hb hSt hP (ks1_4 (ks9_2 kh)) (by rw [(ln1_4 (ks9_2 kh))]; exact c_7) dX9_lies_89 ?_
        refine lv_iload hx hb dX9_lies_90 (lv_at hl 5 rfl) ?_
        refine mw_put (ci := 5) (v := v6) (ty := .int) (C := RX5) (T := TX5) (N := 6) hx hb ht inX5 tyX5 tyX5_ok nmX5 hown hSt hP hS (ke13 (ks1_4 (ks9_2 kh)) (vp_lt (by rw [(ln1_4 (ks9_2 kh))]; exact c_7))) (by decide) (mk5 (ke13 (ks1_4 (ks9_2 kh)) (vp_lt (by rw [(ln1_4 (ks9_2 kh))]; exact c_7)))) rfl 2 (by decide) (ht _ wf_RX9_118) rfl rfl (by decide +kernel) (vp_nar_int _) rfl (Nat.le_of_ble_eq_true rfl) (by rw [mk5 (ke13 (ks1_4 (ks9_2 kh)) (vp_lt (by rw [(ln1_4 (ks9_2 kh))]; exact c_7)))]; simp [mu]) dX9_lies_92 (fun M_8 H locs eM_8 hP hS => ?_)
        have hw := hw M_8 eM_8
        refine lv_aload_n hx hb dX9_lies_95 rfl (lv_at hl 0 rfl) ?_
        refine mw_get (ci := 9) (v := .ref (G.1 + (h + 69))) (C := RX9) (T := TX9) (N := 8) hx hb ht inX9 hown hSt hP kh (by decide) (mk9 kh) rfl 2 (by decide) (ht _ wf_RX9_22) rfl rfl dX9_lies_96 ?_
        refine lv_iconst (v := 1) hx hb dX9_lies_99 (by decide) ?_
        refine mw_V (As := [.int 1]) (rest := []) (T := TX1) (N := 9) (n := 1) ⟨hx, hb, hml, hown, hts⟩ (so_X1_passHours l G (h + 69) 1 M_8 _ hw) wm_RX9_189 wi_yX1_passHours wv_yX1_passHours wn_RX1 wc_yX1_passHours (by decide) ⟨Nat.le_of_ble_eq_true rfl, Nat.le_of_ble_eq_true rfl⟩ ⟨rfl, rfl⟩ (ks9_2 kh) (by decide) (mk1 (ks9_2 kh)) rfl hSt hTb hP hS rfl hl.1 rfl (Nat.le_of_ble_eq_true rfl) dX9_lies_100 ⟨Nat.le_refl 0, Nat.le_refl 0⟩ (fun rr_ M_9 H locs hq hP hS => ?_)
        obtain ⟨rfl, hw⟩ := hq
        refine lv_aload_n hx hb dX9_lies_103 rfl (lv_at hl 0 rfl) ?_
        refine mw_get (ci := 9) (v := .ref (G.1 + (h + 69))) (C := RX9) (T := TX9) (N := 8) hx hb ht inX9 hown hSt hP kh (by decide) (mk9 kh) rfl 2 (by decide) (ht _ wf_RX9_22) rfl rfl dX9_lies_104 ?_
        refine lv_aload hx hb dX9_lies_107 (lv_at hl 3 rfl) ?_
        refine mw_get (ci := 6) (v := .ref (G.1 + (r4 + 1))) (C := RX6) (T := TX6) (N := 2) hx hb ht inX6 hown hSt hP kr4 (by decide) (mk6 kr4) rfl 0 (by decide) (ht _ wf_RX9_228) rfl rfl dX9_lies_109 ?_
        refine mw_V (As := [.ref (G.1 + (r4 + 1))]) (rest := []) (T := TX1) (N := 9) (n := 1) ⟨hx, hb, hml, hown, hts⟩ (so_X1_hasSnowAs l G (h + 69) (r4 + 1) M_9 _ hw) wm_RX9_231 wi_yX1_hasSnowAs wv_yX1_hasSnowAs wn_RX1 wc_yX1_hasSnowAs (by decide) ⟨Nat.le_of_ble_eq_true rfl, Nat.le_of_ble_eq_true rfl⟩ ⟨rfl, rfl⟩ (ks9_2 kh) (by decide) (mk1 (ks9_2 kh)) rfl hSt hTb hP hS rfl hl.1 rfl (Nat.le_of_ble_eq_true rfl) dX9_lies_112 ⟨Nat.le_refl 0, Nat.le_refl 0⟩ (fun rr_ M_10 H locs hq hP hS => ?_)
        obtain ⟨r_11, rfl, hw⟩ := hq
        refine lv_if_eq (tgt := 127) hx hb dX9_lies_115 (by decide) (fun c_12 => ?_) (fun c_12 => ?_)
        · have hw := hw.1 c_12
          exact J_127 v5 v6 M_10 _ _ _ hw hP hS (lv_sub hl [0, 1, 2, 3, 4, 5] rfl)
        · have hw := hw.2 c_12
          refine lv_iload hx hb dX9_lies_118 (lv_at hl 4 rfl) ?_
          refine lv_iconst (v := 1) hx hb dX9_lies_120 (by decide) ?_
          refine lv_iload hx hb dX9_lies_121 (lv_at hl 5 rfl) ?_
          refine lv_ishl hx hb dX9_lies_123 ?_
          refine lv_ior hx hb dX9_lies_124 ?_
          refine lv_topi (fun x_13 ex_13 => ?_)
          have hw := hw x_13 ex_13
          refine lv_istore (lv' := [(5, .int x_13), (0, .ref (G.1 + h)), (2, .int v2), (3, .int v3), (4, .ref (G.1 + r4)), (6, .int v6)]) hx hb dX9_lies_125 hl (by decide) rfl (fun ls hl => ?_)
          exact J_127 x_13 v6 M_10 _ _ _ hw hP hS (lv_sub hl [1, 2, 3, 4, 0, 5] rfl)
  have J_58 : ∀  (M : Mem) (H : Heap) (locs : List Loc) (ls : Array Slot), b_X9_lies_58 h Q M → va_P G.2.1 clsA (wl G M) H → va_S (inW G) s.heap H locs → lv_has ls 7 [(0, .ref (G.1 + h))] → W p l e ({ frames := 6, cells := 0, slots := 0, locals := 167 } : Room) s m ([.ref (G.1 + h), .int a1, .int a2, .int a3] : List Value).toArray below meth c H locs 0 0 (MQ below (Pq G (Qi Q)) ([.ref (G.1 + h), .int a1, .int a2, .int a3] : List Value).toArray s 0 0 (inW G)) (F0 m 58 ls []) := by
    intro  M H locs ls  hw hP hS hl
    unfold b_X9_lies_58 at hw
    refine lv_aload_n hx hb dX9_lies_58 rfl (lv_at hl 0 rfl) ?_
    refine lv_iconst (v := 2) hx hb dX9_lies_59 (by decide) ?_
    refine mw_V (As := [.int 2]) (rest := []) (T := TX9) (N := 8) (n := 1) ⟨hx, hb, hml, hown, hts⟩ (so_X9_refuse l G h 2 M _ hw) wm_RX9_59 wi_yX9_refuse wv_yX9_refuse wn_RX9 wc_yX9_refuse (by decide) ⟨Nat.le_of_ble_eq_true rfl, Nat.le_of_ble_eq_true rfl⟩ ⟨rfl, rfl⟩ kh (by decide) (mk9 kh) rfl hSt hTb hP hS rfl hl.1 rfl (Nat.le_of_ble_eq_true rfl) dX9_lies_60 ⟨Nat.le_refl 0, Nat.le_refl 0⟩ (fun rr_ M_14 H locs hq hP hS => ?_)
    obtain ⟨r_15, rfl, hw⟩ := hq
    exact W.iret hx hb hr (mw_end hP hSt hTb hS ⟨_, rfl, hw⟩) hS.2.2 dX9_lies_63
  have J_23 : ∀  (M : Mem) (H : Heap) (locs : List Loc) (ls : Array Slot), b_X9_lies_23 h Q M → va_P G.2.1 clsA (wl G M) H → va_S (inW G) s.heap H locs → lv_has ls 7 [(0, .ref (G.1 + h))] → W p l e ({ frames := 6, cells := 0, slots := 0, locals := 167 } : Room) s m ([.ref (G.1 + h), .int a1, .int a2, .int a3] : List Value).toArray below meth c H locs 0 0 (MQ below (Pq G (Qi Q)) ([.ref (G.1 + h), .int a1, .int a2, .int a3] : List Value).toArray s 0 0 (inW G)) (F0 m 23 ls []) := by
    intro  M H locs ls  hw hP hS hl
    unfold b_X9_lies_23 at hw
    refine lv_aload_n hx hb dX9_lies_23 rfl (lv_at hl 0 rfl) ?_
    refine lv_iconst (v := 1) hx hb dX9_lies_24 (by decide) ?_
    refine mw_V (As := [.int 1]) (rest := []) (T := TX9) (N := 8) (n := 1) ⟨hx, hb, hml, hown, hts⟩ (so_X9_refuse l G h 1 M _ hw) wm_RX9_59 wi_yX9_refuse wv_yX9_refuse wn_RX9 wc_yX9_refuse (by decide) ⟨Nat.le_of_ble_eq_true rfl, Nat.le_of_ble_eq_true rfl⟩ ⟨rfl, rfl⟩ kh (by decide) (mk9 kh) rfl hSt hTb hP hS rfl hl.1 rfl (Nat.le_of_ble_eq_true rfl) dX9_lies_25 ⟨Nat.le_refl 0, Nat.le_refl 0⟩ (fun rr_ M_16 H locs hq hP hS => ?_)
    obtain ⟨r_17, rfl, hw⟩ := hq
    exact W.iret hx hb hr (mw_end hP hSt hTb hS ⟨_, rfl, hw⟩) hS.2.2 dX9_lies_28
  refine lv_iload_n hx hb dX9_lies_0 rfl (lv_at hl 1 rfl) ?_
  refine mw_Sx (As := [.int a1]) (rest := []) (n := 1) ⟨hx, hb, hml, hown, hts⟩ (so_X9_isSheet l G a1 M _ hw) wm_RX9_221 wt_yX9_isSheet wn_RX9 wc_yX9_isSheet (by decide) ⟨Nat.le_of_ble_eq_true rfl, Nat.le_of_ble_eq_true rfl⟩ ⟨rfl, rfl⟩ hSt hTb hP hS rfl hl.1 rfl (Nat.le_of_ble_eq_true rfl) dX9_lies_1 ⟨Nat.le_refl 0, Nat.le_refl 0⟩ (fun rr_ M_18 H locs hq hP hS => ?_)
  obtain ⟨r_19, rfl, hw⟩ := hq
  refine lv_if_eq (tgt := 23) hx hb dX9_lies_4 (by decide) (fun c_20 => ?_) (fun c_20 => ?_)
  · have hw := hw.1 c_20
    exact J_23 M_18 _ _ _ hw hP hS (lv_sub hl [0] rfl)
  · have hw := hw.2 c_20
    refine lv_aload_n hx hb dX9_lies_7 rfl (lv_at hl 0 rfl) ?_
    refine lv_iload_n hx hb dX9_lies_8 rfl (lv_at hl 2 rfl) ?_
    refine mw_V (As := [.int a2]) (rest := []) (T := TX9) (N := 8) (n := 1) ⟨hx, hb, hml, hown, hts⟩ (so_X9_isSheep l G h a2 M_18 _ hw) wm_RX9_131 wi_yX9_isSheep wv_yX9_isSheep wn_RX9 wc_yX9_isSheep (by decide) ⟨Nat.le_of_ble_eq_true rfl, Nat.le_of_ble_eq_true rfl⟩ ⟨rfl, rfl⟩ kh (by decide) (mk9 kh) rfl hSt hTb hP hS rfl hl.1 rfl (Nat.le_of_ble_eq_true rfl) dX9_lies_9 ⟨Nat.le_refl 0, Nat.le_refl 0⟩ (fun rr_ M_21 H locs hq hP hS => ?_)
    obtain ⟨r_22, rfl, hw⟩ := hq
    refine lv_if_eq (tgt := 23) hx hb dX9_lies_12 (by decide) (fun c_23 => ?_) (fun c_23 => ?_)
    · have hw := hw.1 c_23
      exact J_23 M_21 _ _ _ hw hP hS (lv_sub hl [0] rfl)
    · have hw := hw.2 c_23
      refine lv_iload_n hx hb dX9_lies_15 rfl (lv_at hl 3 rfl) ?_
      refine lv_iconst (v := 1) hx hb dX9_lies_16 (by decide) ?_
      refine mw_Sx (As := [.int a3, .int 1]) (rest := []) (n := 2) ⟨hx, hb, hml, hown, hts⟩ (so_X9_isWithin l G a3 1 M_21 _ hw) wm_RX9_55 wt_yX9_isWithin wn_RX9 wc_yX9_isWithin (by decide) ⟨Nat.le_of_ble_eq_true rfl, Nat.le_of_ble_eq_true rfl⟩ ⟨rfl, rfl⟩ hSt hTb hP hS rfl hl.1 rfl (Nat.le_of_ble_eq_true rfl) dX9_lies_17 ⟨Nat.le_refl 0, Nat.le_refl 0⟩ (fun rr_ M_24 H locs hq hP hS => ?_)
      obtain ⟨r_25, rfl, hw⟩ := hq
      refine lv_if_ne (tgt := 29) hx hb dX9_lies_20 (by decide) (fun c_26 => ?_) (fun c_26 => ?_)
      · have hw := hw.1 c_26
        refine lv_aload_n hx hb dX9_lies_29 rfl (lv_at hl 0 rfl) ?_
        refine mw_get (ci := 9) (v := .ref (G.1 + (h + 106))) (C := RX9) (T := TX9) (N := 8) hx hb ht inX9 hown hSt hP kh (by decide) (mk9 kh) rfl 5 (by decide) (ht _ wf_RX9_42) rfl rfl dX9_lies_30 ?_
        refine lv_iload_n hx hb dX9_lies_33 rfl (lv_at hl 1 rfl) ?_
        obtain ⟨c_27, hw⟩ := hw
        refine mw_aald14 hx hb hSt hP (ks9_5 kh) (by rw [(ln9_5 kh)]; exact c_27) dX9_lies_34 ?_
        obtain ⟨q_28, eq_28⟩ : ∃ z, z = h + 106 + 2 + 3 * a1.toNatClampNeg := ⟨_, rfl⟩
        have hw := hw q_28 eq_28
        have kq_28 : kdT q_28 = 6 := by rw [eq_28]; exact (ke14 (ks9_5 kh) (vp_lt (by rw [(ln9_5 kh)]; exact c_27)))
        rw [← eq_28]
        refine lv_astore (lv' := [(4, .ref (G.1 + q_28)), (0, .ref (G.1 + h)), (1, .int a1), (2, .int a2), (3, .int a3)]) hx hb dX9_lies_35 hl (by decide) rfl (fun ls hl => ?_)
        refine lv_aload hx hb dX9_lies_37 (lv_at hl 0 rfl) ?_
        refine mw_V (As := []) (rest := []) (T := TX6) (N := 2) (n := 0) ⟨hx, hb, hml, hown, hts⟩ (so_X6_isMissing l G q_28 M_24 _ hw) wm_RX9_224 wi_yX6_isMissing wv_yX6_isMissing wn_RX6 wc_yX6_isMissing (by decide) ⟨Nat.le_of_ble_eq_true rfl, Nat.le_of_ble_eq_true rfl⟩ ⟨rfl, rfl⟩ kq_28 (by decide) (mk6 kq_28) rfl hSt hTb hP hS rfl hl.1 rfl (Nat.le_of_ble_eq_true rfl) dX9_lies_39 ⟨Nat.le_refl 0, Nat.le_refl 0⟩ (fun rr_ M_29 H locs hq hP hS => ?_)
        obtain ⟨r_30, rfl, hw⟩ := hq
        refine lv_if_ne (tgt := 58) hx hb dX9_lies_42 (by decide) (fun c_31 => ?_) (fun c_31 => ?_)
        · have hw := hw.1 c_31
          exact J_58 M_29 _ _ _ hw hP hS (lv_sub hl [1] rfl)
        · have hw := hw.2 c_31
          refine lv_aload hx hb dX9_lies_45 (lv_at hl 0 rfl) ?_
          refine mw_get (ci := 6) (v := .ref (G.1 + (q_28 + 1))) (C := RX6) (T := TX6) (N := 2) hx hb ht inX6 hown hSt hP kq_28 (by decide) (mk6 kq_28) rfl 0 (by decide) (ht _ wf_RX9_228) rfl rfl dX9_lies_47 ?_
          refine mw_get (ci := 3) (v := .int (M_29 (q_28 + 1) 1)) (C := RX3) (T := TX3) (N := 2) hx hb ht inX3 hown hSt hP (ks6_0 kq_28) (by decide) (mk3 (ks6_0 kq_28)) rfl 1 (by decide) (ht _ wf_RX9_153) rfl rfl dX9_lies_50 ?_
          refine lv_bipush (v := 10) hx hb dX9_lies_53 (by decide) ?_
          refine lv_icmp_eq (tgt := 64) hx hb dX9_lies_55 (by decide) (fun c_32 => ?_) (fun c_32 => ?_)
          · have hw := hw.1 c_32
            refine lv_iconst (v := 0) hx hb dX9_lies_64 (by decide) ?_
            refine lv_istore (lv' := [(5, .int 0), (4, .ref (G.1 + q_28)), (0, .ref (G.1 + h)), (1, .int a1), (2, .int a2), (3, .int a3)]) hx hb dX9_lies_65 hl (by decide) rfl (fun ls hl => ?_)
            refine lv_iconst (v := 0) hx hb dX9_lies_67 (by decide) ?_
            refine lv_istore (lv' := [(6, .int 0), (5, .int 0), (4, .ref (G.1 + q_28)), (0, .ref (G.1 + h)), (1, .int a1), (2, .int a2), (3, .int a3)]) hx hb dX9_lies_68 hl (by decide) rfl (fun ls hl => ?_)
            obtain ⟨n_, hw⟩ := hw
            exact L_70 a2 a3 q_28 kq_28 n_ 0 0 M_29 _ _ _ hw hP hS (lv_sub hl [3, 5, 6, 2, 1, 0] rfl)
          · have hw := hw.2 c_32
            exact J_58 M_29 _ _ _ hw hP hS (lv_sub hl [1] rfl)
      · have hw := hw.2 c_26
        exact J_23 M_24 _ _ _ hw hP hS (lv_sub hl [0] rfl)
def B_X9_order_57 (h : Nat) (Q : Int32 → Mem → Prop) (r2 : Nat) (r3 : Nat) (K57 : Int32 → Mem → Prop) (v4 : Int32) (M : Mem) : Prop :=
  ((M r3 1) ≤ v4 → Q v4 M) ∧ (¬ (M r3 1) ≤ v4 → ((M (r2 + 1) 1) ≤ v4 → Q v4 M) ∧ (¬ (M (r2 + 1) 1) ≤ v4 → wp_X3_get r3 v4 M (fun r_4 M_3 => wp_X3_get (r2 + 1) v4 M_3 (fun r_6 M_5 => (¬ r_4 = r_6 → Q v4 M_5) ∧ (r_4 = r_6 → ∀ x_8 : Int32, x_8 = v4 + 1 → K57 x_8 M_5)))))
def l_X9_order_57 (h : Nat) (Q : Int32 → Mem → Prop) (r2 : Nat) (r3 : Nat) : Nat → Int32 → Mem → Prop
  | 0 => fun _ _ => False
  | n + 1 => B_X9_order_57 h Q r2 r3 (l_X9_order_57 h Q r2 r3 n)
def wp_X9_order (h : Nat) (a1 : Int32) (M : Mem) (Q : Int32 → Mem → Prop) : Prop :=
  kdT h = 9 ∧ (wp_X9_isSheet a1 M (fun r_10 M_9 => (¬ r_10 = 0 → vp_in a1 4 ∧ (∀ q_13, q_13 = h + 106 + 2 + 3 * a1.toNatClampNeg → wp_X6_isMissing q_13 M_9 (fun r_15 M_14 => (r_15 = 0 → wp_X9_thinkFromNow h M_14 (fun M_17 => wp_X1_passHours (h + 69) 60 M_17 (fun M_18 => ∀ q_19, q_19 = h + 69 + 14 → ∃ n, l_X9_order_57 h Q q_13 q_19 n 0 M_18))) ∧ (¬ r_15 = 0 → wp_X9_refuse h 2 M_14 (fun r_21 M_20 => Q r_21 M_20))))) ∧ (r_10 = 0 → wp_X9_refuse h 1 M_9 (fun r_23 M_22 => Q r_23 M_22))))
set_option maxHeartbeats 4000000 in
set_option maxRecDepth 100000 in
theorem so_X9_order (l : Launch) (G : Gm) (h : Nat) (a1 : Int32) (M : Mem) (Q : Int32 → Mem → Prop) (hw : wp_X9_order h a1 M Q) : Ct l G yX9_order cX9_order 5 (some .int) ({ frames := 6, cells := 0, slots := 0, locals := 167 } : Room) [.ref (G.1 + h), .int a1] M (Qi Q) := by
  unfold wp_X9_order at hw
  obtain ⟨kh, hw⟩ := hw
  refine ct_of (by decide) (Nat.le_of_ble_eq_true rfl) ?_
  intro p e s m below meth c E_ ls H hl hP hS
  obtain ⟨hx, hb, hml, hown, hts, ht, hr, hlocks, hSt, hTb⟩ := E_
  have hl : lv_has ls 5 [(0, .ref (G.1 + h)), (1, .int a1)] := hl
  have L_57 : ∀ (r2 : Nat) (r3 : Nat), kdT r2 = 6 → kdT r3 = 3 → ∀ (n57 : Nat) (v4 : Int32) (M : Mem) (H : Heap) (locs : List Loc) (ls : Array Slot), l_X9_order_57 h Q r2 r3 n57 v4 M → va_P G.2.1 clsA (wl G M) H → va_S (inW G) s.heap H locs → lv_has ls 5 [(0, .ref (G.1 + h)), (2, .ref (G.1 + r2)), (3, .ref (G.1 + r3)), (4, .int v4)] → W p l e ({ frames := 6, cells := 0, slots := 0, locals := 167 } : Room) s m ([.ref (G.1 + h), .int a1] : List Value).toArray below meth c H locs 0 0 (MQ below (Pq G (Qi Q)) ([.ref (G.1 + h), .int a1] : List Value).toArray s 0 0 (inW G)) (F0 m 57 ls []) := by
    intro r2 r3 kr2 kr3 n57
    induction n57 with
    | zero => intro v4 M H locs ls  hw hP hS hl; exact False.elim hw
    | succ n57 ih57 =>
      intro v4 M H locs ls  hw hP hS hl
      have hw : B_X9_order_57 h Q r2 r3 (l_X9_order_57 h Q r2 r3 n57) v4 M := hw
      unfold B_X9_order_57 at hw
      refine lv_iload hx hb dX9_order_57 (lv_at hl 3 rfl) ?_
      refine lv_aload_n hx hb dX9_order_59 rfl (lv_at hl 2 rfl) ?_
      refine mw_get (ci := 3) (v := .int (M r3 1)) (C := RX3) (T := TX3) (N := 2) hx hb ht inX3 hown hSt hP kr3 (by decide) (mk3 kr3) rfl 1 (by decide) (ht _ wf_RX9_153) rfl rfl dX9_order_60 ?_
      refine lv_icmp_ge (tgt := 102) hx hb dX9_order_63 (by decide) (fun c_1 => ?_) (fun c_1 => ?_)
      · have hw := hw.1 c_1
        refine lv_iload hx hb dX9_order_102 (lv_at hl 3 rfl) ?_
        exact W.iret hx hb hr (mw_end hP hSt hTb hS ⟨_, rfl, hw⟩) hS.2.2 dX9_order_104
      · have hw := hw.2 c_1
        refine lv_iload hx hb dX9_order_66 (lv_at hl 3 rfl) ?_
        refine lv_aload_n hx hb dX9_order_68 rfl (lv_at hl 1 rfl) ?_
        refine mw_get (ci := 6) (v := .ref (G.1 + (r2 + 1))) (C := RX6) (T := TX6) (N := 2) hx hb ht inX6 hown hSt hP kr2 (by decide) (mk6 kr2) rfl 0 (by decide) (ht _ wf_RX9_228) rfl rfl dX9_order_69 ?_
        refine mw_get (ci := 3) (v := .int (M (r2 + 1) 1)) (C := RX3) (T := TX3) (N := 2) hx hb ht inX3 hown hSt hP (ks6_0 kr2) (by decide) (mk3 (ks6_0 kr2)) rfl 1 (by decide) (ht _ wf_RX9_153) rfl rfl dX9_order_72 ?_
        refine lv_icmp_ge (tgt := 102) hx hb dX9_order_75 (by decide) (fun c_2 => ?_) (fun c_2 => ?_)
        · have hw := hw.1 c_2
          refine lv_iload hx hb dX9_order_102 (lv_at hl 3 rfl) ?_
          exact W.iret hx hb hr (mw_end hP hSt hTb hS ⟨_, rfl, hw⟩) hS.2.2 dX9_order_104
        · have hw := hw.2 c_2
          refine lv_aload_n hx hb dX9_order_78 rfl (lv_at hl 2 rfl) ?_
          refine lv_iload hx hb dX9_order_79 (lv_at hl 3 rfl) ?_
          refine mw_V (As := [.int v4]) (rest := []) (T := TX3) (N := 2) (n := 1) ⟨hx, hb, hml, hown, hts⟩ (so_X3_get l G r3 v4 M _ hw) wm_RX9_238 wi_yX3_get wv_yX3_get wn_RX3 wc_yX3_get (by decide) ⟨Nat.le_of_ble_eq_true rfl, Nat.le_of_ble_eq_true rfl⟩ ⟨rfl, rfl⟩ kr3 (by decide) (mk3 kr3) rfl hSt hTb hP hS rfl hl.1 rfl (Nat.le_of_ble_eq_true rfl) dX9_order_81 ⟨Nat.le_refl 0, Nat.le_refl 0⟩ (fun rr_ M_3 H locs hq hP hS => ?_)
          obtain ⟨r_4, rfl, hw⟩ := hq
          refine lv_aload_n hx hb dX9_order_84 rfl (lv_at hl 1 rfl) ?_
          refine mw_get (ci := 6) (v := .ref (G.1 + (r2 + 1))) (C := RX6) (T := TX6) (N := 2) hx hb ht inX6 hown hSt hP kr2 (by decide) (mk6 kr2) rfl 0 (by decide) (ht _ wf_RX9_228) rfl rfl dX9_order_85 ?_
          refine lv_iload hx hb dX9_order_88 (lv_at hl 3 rfl) ?_
          refine mw_V (As := [.int v4]) (rest := [.int r_4]) (T := TX3) (N := 2) (n := 1) ⟨hx, hb, hml, hown, hts⟩ (so_X3_get l G (r2 + 1) v4 M_3 _ hw) wm_RX9_238 wi_yX3_get wv_yX3_get wn_RX3 wc_yX3_get (by decide) ⟨Nat.le_of_ble_eq_true rfl, Nat.le_of_ble_eq_true rfl⟩ ⟨rfl, rfl⟩ (ks6_0 kr2) (by decide) (mk3 (ks6_0 kr2)) rfl hSt hTb hP hS rfl hl.1 rfl (Nat.le_of_ble_eq_true rfl) dX9_order_90 ⟨Nat.le_refl 0, Nat.le_refl 0⟩ (fun rr_ M_5 H locs hq hP hS => ?_)
          obtain ⟨r_6, rfl, hw⟩ := hq
          refine lv_icmp_ne (tgt := 102) hx hb dX9_order_93 (by decide) (fun c_7 => ?_) (fun c_7 => ?_)
          · have hw := hw.1 c_7
            refine lv_iload hx hb dX9_order_102 (lv_at hl 3 rfl) ?_
            exact W.iret hx hb hr (mw_end hP hSt hTb hS ⟨_, rfl, hw⟩) hS.2.2 dX9_order_104
          · have hw := hw.2 c_7
            obtain ⟨x_8, ex_8⟩ : ∃ z : Int32, z = v4 + 1 := ⟨_, rfl⟩
            have hw := hw x_8 ex_8
            refine lv_iinc (v := x_8) (lv' := [(4, .int x_8), (0, .ref (G.1 + h)), (2, .ref (G.1 + r2)), (3, .ref (G.1 + r3))]) hx hb dX9_order_96 hl (k := 3) rfl (by rw [ex_8]; rfl) (by decide) rfl (fun ls hl => ?_)
            refine lv_goto (tgt := 57) hx hb dX9_order_99 (by decide) ?_
            exact ih57 x_8 M_5 _ _ _ hw hP hS (lv_sub hl [1, 2, 3, 0] rfl)
  refine lv_iload_n hx hb dX9_order_0 rfl (lv_at hl 1 rfl) ?_
  refine mw_Sx (As := [.int a1]) (rest := []) (n := 1) ⟨hx, hb, hml, hown, hts⟩ (so_X9_isSheet l G a1 M _ hw) wm_RX9_221 wt_yX9_isSheet wn_RX9 wc_yX9_isSheet (by decide) ⟨Nat.le_of_ble_eq_true rfl, Nat.le_of_ble_eq_true rfl⟩ ⟨rfl, rfl⟩ hSt hTb hP hS rfl hl.1 rfl (Nat.le_of_ble_eq_true rfl) dX9_order_1 ⟨Nat.le_refl 0, Nat.le_refl 0⟩ (fun rr_ M_9 H locs hq hP hS => ?_)
  obtain ⟨r_10, rfl, hw⟩ := hq
  refine lv_if_ne (tgt := 13) hx hb dX9_order_4 (by decide) (fun c_11 => ?_) (fun c_11 => ?_)
  · have hw := hw.1 c_11
    refine lv_aload_n hx hb dX9_order_13 rfl (lv_at hl 0 rfl) ?_
    refine mw_get (ci := 9) (v := .ref (G.1 + (h + 106))) (C := RX9) (T := TX9) (N := 8) hx hb ht inX9 hown hSt hP kh (by decide) (mk9 kh) rfl 5 (by decide) (ht _ wf_RX9_42) rfl rfl dX9_order_14 ?_
    refine lv_iload_n hx hb dX9_order_17 rfl (lv_at hl 1 rfl) ?_
    obtain ⟨c_12, hw⟩ := hw
    refine mw_aald14 hx hb hSt hP (ks9_5 kh) (by rw [(ln9_5 kh)]; exact c_12) dX9_order_18 ?_
    obtain ⟨q_13, eq_13⟩ : ∃ z, z = h + 106 + 2 + 3 * a1.toNatClampNeg := ⟨_, rfl⟩
    have hw := hw q_13 eq_13
    have kq_13 : kdT q_13 = 6 := by rw [eq_13]; exact (ke14 (ks9_5 kh) (vp_lt (by rw [(ln9_5 kh)]; exact c_12)))
    rw [← eq_13]
    refine lv_astore_n (lv' := [(2, .ref (G.1 + q_13)), (0, .ref (G.1 + h)), (1, .int a1)]) hx hb dX9_order_19 rfl hl (by decide) rfl (fun ls hl => ?_)
    refine lv_aload_n hx hb dX9_order_20 rfl (lv_at hl 0 rfl) ?_
    refine mw_V (As := []) (rest := []) (T := TX6) (N := 2) (n := 0) ⟨hx, hb, hml, hown, hts⟩ (so_X6_isMissing l G q_13 M_9 _ hw) wm_RX9_224 wi_yX6_isMissing wv_yX6_isMissing wn_RX6 wc_yX6_isMissing (by decide) ⟨Nat.le_of_ble_eq_true rfl, Nat.le_of_ble_eq_true rfl⟩ ⟨rfl, rfl⟩ kq_13 (by decide) (mk6 kq_13) rfl hSt hTb hP hS rfl hl.1 rfl (Nat.le_of_ble_eq_true rfl) dX9_order_21 ⟨Nat.le_refl 0, Nat.le_refl 0⟩ (fun rr_ M_14 H locs hq hP hS => ?_)
    obtain ⟨r_15, rfl, hw⟩ := hq
    refine lv_if_eq (tgt := 33) hx hb dX9_order_24 (by decide) (fun c_16 => ?_) (fun c_16 => ?_)
    · have hw := hw.1 c_16
      refine lv_aload_n hx hb dX9_order_33 rfl (lv_at hl 1 rfl) ?_
      refine mw_V (As := []) (rest := []) (T := TX9) (N := 8) (n := 0) ⟨hx, hb, hml, hown, hts⟩ (so_X9_thinkFromNow l G h M_14 _ hw) wm_RX9_200 wi_yX9_thinkFromNow wv_yX9_thinkFromNow wn_RX9 wc_yX9_thinkFromNow (by decide) ⟨Nat.le_of_ble_eq_true rfl, Nat.le_of_ble_eq_true rfl⟩ ⟨rfl, rfl⟩ kh (by decide) (mk9 kh) rfl hSt hTb hP hS rfl hl.1 rfl (Nat.le_of_ble_eq_true rfl) dX9_order_34 ⟨Nat.le_refl 0, Nat.le_refl 0⟩ (fun rr_ M_17 H locs hq hP hS => ?_)
      obtain ⟨rfl, hw⟩ := hq
      refine lv_aload_n hx hb dX9_order_37 rfl (lv_at hl 1 rfl) ?_
      refine mw_get (ci := 9) (v := .ref (G.1 + (h + 69))) (C := RX9) (T := TX9) (N := 8) hx hb ht inX9 hown hSt hP kh (by decide) (mk9 kh) rfl 2 (by decide) (ht _ wf_RX9_22) rfl rfl dX9_order_38 ?_
      refine lv_bipush (v := 60) hx hb dX9_order_41 (by decide) ?_
      refine mw_V (As := [.int 60]) (rest := []) (T := TX1) (N := 9) (n := 1) ⟨hx, hb, hml, hown, hts⟩ (so_X1_passHours l G (h + 69) 60 M_17 _ hw) wm_RX9_189 wi_yX1_passHours wv_yX1_passHours wn_RX1 wc_yX1_passHours (by decide) ⟨Nat.le_of_ble_eq_true rfl, Nat.le_of_ble_eq_true rfl⟩ ⟨rfl, rfl⟩ (ks9_2 kh) (by decide) (mk1 (ks9_2 kh)) rfl hSt hTb hP hS rfl hl.1 rfl (Nat.le_of_ble_eq_true rfl) dX9_order_43 ⟨Nat.le_refl 0, Nat.le_refl 0⟩ (fun rr_ M_18 H locs hq hP hS => ?_)
      obtain ⟨rfl, hw⟩ := hq
      refine lv_aload_n hx hb dX9_order_46 rfl (lv_at hl 1 rfl) ?_
      refine mw_get (ci := 9) (v := .ref (G.1 + (h + 69))) (C := RX9) (T := TX9) (N := 8) hx hb ht inX9 hown hSt hP kh (by decide) (mk9 kh) rfl 2 (by decide) (ht _ wf_RX9_22) rfl rfl dX9_order_47 ?_
      refine mw_get (ci := 1) (v := .ref (G.1 + (h + 69 + 14))) (C := RX1) (T := TX1) (N := 9) hx hb ht inX1 hown hSt hP (ks9_2 kh) (by decide) (mk1 (ks9_2 kh)) rfl 5 (by decide) (ht _ wf_RX9_235) rfl rfl dX9_order_50 ?_
      obtain ⟨q_19, eq_19⟩ : ∃ z, z = h + 69 + 14 := ⟨_, rfl⟩
      have hw := hw q_19 eq_19
      have kq_19 : kdT q_19 = 3 := by rw [eq_19]; exact (ks1_5 (ks9_2 kh))
      rw [← eq_19]
      refine lv_astore_n (lv' := [(3, .ref (G.1 + q_19)), (2, .ref (G.1 + q_13)), (0, .ref (G.1 + h)), (1, .int a1)]) hx hb dX9_order_53 rfl hl (by decide) rfl (fun ls hl => ?_)
      refine lv_iconst (v := 0) hx hb dX9_order_54 (by decide) ?_
      refine lv_istore (lv' := [(4, .int 0), (3, .ref (G.1 + q_19)), (2, .ref (G.1 + q_13)), (0, .ref (G.1 + h)), (1, .int a1)]) hx hb dX9_order_55 hl (by decide) rfl (fun ls hl => ?_)
      obtain ⟨n_, hw⟩ := hw
      exact L_57 q_13 q_19 kq_13 kq_19 n_ 0 M_18 _ _ _ hw hP hS (lv_sub hl [3, 2, 1, 0] rfl)
    · have hw := hw.2 c_16
      refine lv_aload_n hx hb dX9_order_27 rfl (lv_at hl 1 rfl) ?_
      refine lv_iconst (v := 2) hx hb dX9_order_28 (by decide) ?_
      refine mw_V (As := [.int 2]) (rest := []) (T := TX9) (N := 8) (n := 1) ⟨hx, hb, hml, hown, hts⟩ (so_X9_refuse l G h 2 M_14 _ hw) wm_RX9_59 wi_yX9_refuse wv_yX9_refuse wn_RX9 wc_yX9_refuse (by decide) ⟨Nat.le_of_ble_eq_true rfl, Nat.le_of_ble_eq_true rfl⟩ ⟨rfl, rfl⟩ kh (by decide) (mk9 kh) rfl hSt hTb hP hS rfl hl.1 rfl (Nat.le_of_ble_eq_true rfl) dX9_order_29 ⟨Nat.le_refl 0, Nat.le_refl 0⟩ (fun rr_ M_20 H locs hq hP hS => ?_)
      obtain ⟨r_21, rfl, hw⟩ := hq
      exact W.iret hx hb hr (mw_end hP hSt hTb hS ⟨_, rfl, hw⟩) hS.2.2 dX9_order_32
  · have hw := hw.2 c_11
    refine lv_aload_n hx hb dX9_order_7 rfl (lv_at hl 0 rfl) ?_
    refine lv_iconst (v := 1) hx hb dX9_order_8 (by decide) ?_
    refine mw_V (As := [.int 1]) (rest := []) (T := TX9) (N := 8) (n := 1) ⟨hx, hb, hml, hown, hts⟩ (so_X9_refuse l G h 1 M_9 _ hw) wm_RX9_59 wi_yX9_refuse wv_yX9_refuse wn_RX9 wc_yX9_refuse (by decide) ⟨Nat.le_of_ble_eq_true rfl, Nat.le_of_ble_eq_true rfl⟩ ⟨rfl, rfl⟩ kh (by decide) (mk9 kh) rfl hSt hTb hP hS rfl hl.1 rfl (Nat.le_of_ble_eq_true rfl) dX9_order_9 ⟨Nat.le_refl 0, Nat.le_refl 0⟩ (fun rr_ M_22 H locs hq hP hS => ?_)
    obtain ⟨r_23, rfl, hw⟩ := hq
    exact W.iret hx hb hr (mw_end hP hSt hTb hS ⟨_, rfl, hw⟩) hS.2.2 dX9_order_12
def B_X9_strong_34 (h : Nat) (Q : Int32 → Mem → Prop) (v1 : Int32) (v2 : Int32) (v3 : Int32) (K34 : Int32 → Mem → Prop) (v4 : Int32) (M : Mem) : Prop :=
  (99 < v4 → wp_X9_refuse h 2 M (fun r_3 M_2 => Q r_3 M_2)) ∧ (¬ 99 < v4 → wp_X9_thinkFromNow h M (fun M_4 => vp_in v1 6 ∧ (∀ M_6, M_6 = mu M_4 (h + 69 + 12 + 4 + v1.toNatClampNeg) 1 v4 → wp_X1_passHoursFor (h + 69) v2 v3 M_6 (fun r_8 M_7 => vp_in v2 7 ∧ (((M_7 (h + 69 + 13 + 9 + v2.toNatClampNeg) 5) = 0 → ∀ x_11 : Int32, x_11 = v4 + 1 → K34 x_11 M_7) ∧ (¬ (M_7 (h + 69 + 13 + 9 + v2.toNatClampNeg) 5) = 0 → Q v4 M_7))))))
def l_X9_strong_34 (h : Nat) (Q : Int32 → Mem → Prop) (v1 : Int32) (v2 : Int32) (v3 : Int32) : Nat → Int32 → Mem → Prop
  | 0 => fun _ _ => False
  | n + 1 => B_X9_strong_34 h Q v1 v2 v3 (l_X9_strong_34 h Q v1 v2 v3 n)
def b_X9_strong_25 (h : Nat) (Q : Int32 → Mem → Prop) (M : Mem) : Prop :=
  wp_X9_refuse h 1 M (fun r_13 M_12 => Q r_13 M_12)
def wp_X9_strong (h : Nat) (a1 : Int32) (a2 : Int32) (a3 : Int32) (M : Mem) (Q : Int32 → Mem → Prop) : Prop :=
  kdT h = 9 ∧ (wp_X9_isSeeker h a1 M (fun r_15 M_14 => (r_15 = 0 → b_X9_strong_25 h Q M_14) ∧ (¬ r_15 = 0 → wp_X9_isSheep h a2 M_14 (fun r_18 M_17 => (r_18 = 0 → b_X9_strong_25 h Q M_17) ∧ (¬ r_18 = 0 → wp_X9_isWithin a3 20 M_17 (fun r_21 M_20 => (¬ r_21 = 0 → ∃ n, l_X9_strong_34 h Q a1 a2 a3 n 0 M_20) ∧ (r_21 = 0 → b_X9_strong_25 h Q M_20)))))))
set_option maxHeartbeats 4000000 in
set_option maxRecDepth 100000 in
theorem so_X9_strong (l : Launch) (G : Gm) (h : Nat) (a1 : Int32) (a2 : Int32) (a3 : Int32) (M : Mem) (Q : Int32 → Mem → Prop) (hw : wp_X9_strong h a1 a2 a3 M Q) : Ct l G yX9_strong cX9_strong 5 (some .int) ({ frames := 6, cells := 0, slots := 0, locals := 168 } : Room) [.ref (G.1 + h), .int a1, .int a2, .int a3] M (Qi Q) := by
  unfold wp_X9_strong at hw
  obtain ⟨kh, hw⟩ := hw
  refine ct_of (by decide) (Nat.le_of_ble_eq_true rfl) ?_
  intro p e s m below meth c E_ ls H hl hP hS
  obtain ⟨hx, hb, hml, hown, hts, ht, hr, hlocks, hSt, hTb⟩ := E_
  have hl : lv_has ls 5 [(0, .ref (G.1 + h)), (1, .int a1), (2, .int a2), (3, .int a3)] := hl
  have L_34 : ∀ (v1 : Int32) (v2 : Int32) (v3 : Int32), ∀ (n34 : Nat) (v4 : Int32) (M : Mem) (H : Heap) (locs : List Loc) (ls : Array Slot), l_X9_strong_34 h Q v1 v2 v3 n34 v4 M → va_P G.2.1 clsA (wl G M) H → va_S (inW G) s.heap H locs → lv_has ls 5 [(0, .ref (G.1 + h)), (1, .int v1), (2, .int v2), (3, .int v3), (4, .int v4)] → W p l e ({ frames := 6, cells := 0, slots := 0, locals := 168 } : Room) s m ([.ref (G.1 + h), .int a1, .int a2, .int a3] : List Value).toArray below meth c H locs 0 0 (MQ below (Pq G (Qi Q)) ([.ref (G.1 + h), .int a1, .int a2, .int a3] : List Value).toArray s 0 0 (inW G)) (F0 m 34 ls []) := by
    intro v1 v2 v3  n34
    induction n34 with
    | zero => intro v4 M H locs ls  hw hP hS hl; exact False.elim hw
    | succ n34 ih34 =>
      intro v4 M H locs ls  hw hP hS hl
      have hw : B_X9_strong_34 h Q v1 v2 v3 (l_X9_strong_34 h Q v1 v2 v3 n34) v4 M := hw
      unfold B_X9_strong_34 at hw
      refine lv_iload hx hb dX9_strong_34 (lv_at hl 4 rfl) ?_
      refine lv_bipush (v := 99) hx hb dX9_strong_36 (by decide) ?_
      refine lv_icmp_gt (tgt := 93) hx hb dX9_strong_38 (by decide) (fun c_1 => ?_) (fun c_1 => ?_)
      · have hw := hw.1 c_1
        refine lv_aload_n hx hb dX9_strong_93 rfl (lv_at hl 0 rfl) ?_
        refine lv_iconst (v := 2) hx hb dX9_strong_94 (by decide) ?_
        refine mw_V (As := [.int 2]) (rest := []) (T := TX9) (N := 8) (n := 1) ⟨hx, hb, hml, hown, hts⟩ (so_X9_refuse l G h 2 M _ hw) wm_RX9_59 wi_yX9_refuse wv_yX9_refuse wn_RX9 wc_yX9_refuse (by decide) ⟨Nat.le_of_ble_eq_true rfl, Nat.le_of_ble_eq_true rfl⟩ ⟨rfl, rfl⟩ kh (by decide) (mk9 kh) rfl hSt hTb hP hS rfl hl.1 rfl (Nat.le_of_ble_eq_true rfl) dX9_strong_95 ⟨Nat.le_refl 0, Nat.le_refl 0⟩ (fun rr_ M_2 H locs hq hP hS => ?_)
        obtain ⟨r_3, rfl, hw⟩ := hq
        exact W.iret hx hb hr (mw_end hP hSt hTb hS ⟨_, rfl, hw⟩) hS.2.2 dX9_strong_98
      · have hw := hw.2 c_1
        refine lv_aload_n hx hb dX9_strong_41 rfl (lv_at hl 0 rfl) ?_
        refine mw_V (As := []) (rest := []) (T := TX9) (N := 8) (n := 0) ⟨hx, hb, hml, hown, hts⟩ (so_X9_thinkFromNow l G h M _ hw) wm_RX9_200 wi_yX9_thinkFromNow wv_yX9_thinkFromNow wn_RX9 wc_yX9_thinkFromNow (by decide) ⟨Nat.le_of_ble_eq_true rfl, Nat.le_of_ble_eq_true rfl⟩ ⟨rfl, rfl⟩ kh (by decide) (mk9 kh) rfl hSt hTb hP hS rfl hl.1 rfl (Nat.le_of_ble_eq_true rfl) dX9_strong_42 ⟨Nat.le_refl 0, Nat.le_refl 0⟩ (fun rr_ M_4 H locs hq hP hS => ?_)
        obtain ⟨rfl, hw⟩ := hq
        refine lv_aload_n hx hb dX9_strong_45 rfl (lv_at hl 0 rfl) ?_
        refine mw_get (ci := 9) (v := .ref (G.1 + (h + 69))) (C := RX9) (T := TX9) (N := 8) hx hb ht inX9 hown hSt hP kh (by decide) (mk9 kh) rfl 2 (by decide) (ht _ wf_RX9_22) rfl rfl dX9_strong_46 ?_
        refine mw_get (ci := 1) (v := .ref (G.1 + (h + 69 + 12))) (C := RX1) (T := TX1) (N := 9) hx hb ht inX1 hown hSt hP (ks9_2 kh) (by decide) (mk1 (ks9_2 kh)) rfl 3 (by decide) (ht _ wf_RX9_79) rfl rfl dX9_strong_49 ?_
        refine lv_iload_n hx hb dX9_strong_52 rfl (lv_at hl 1 rfl) ?_
        obtain ⟨c_5, hw⟩ := hw
        refine mw_aald12 hx hb hSt hP (ks1_3 (ks9_2 kh)) (by rw [(ln1_3 (ks9_2 kh))]; exact c_5) dX9_strong_53 ?_
        refine lv_iload hx hb dX9_strong_54 (lv_at hl 4 rfl) ?_
        refine mw_put (ci := 4) (v := v4) (ty := .int) (C := RX4) (T := TX4) (N := 2) hx hb ht inX4 tyX4 tyX4_ok nmX4 hown hSt hP hS (ke12 (ks1_3 (ks9_2 kh)) (vp_lt (by rw [(ln1_3 (ks9_2 kh))]; exact c_5))) (by decide) (mk4 (ke12 (ks1_3 (ks9_2 kh)) (vp_lt (by rw [(ln1_3 (ks9_2 kh))]; exact c_5)))) rfl 1 (by decide) (ht _ wf_RX9_88) rfl rfl (by decide +kernel) (vp_nar_int _) rfl (Nat.le_of_ble_eq_true rfl) (by rw [mk4 (ke12 (ks1_3 (ks9_2 kh)) (vp_lt (by rw [(ln1_3 (ks9_2 kh))]; exact c_5)))]; simp [mu]) dX9_strong_56 (fun M_6 H locs eM_6 hP hS => ?_)
        have hw := hw M_6 eM_6
        refine lv_aload_n hx hb dX9_strong_59 rfl (lv_at hl 0 rfl) ?_
        refine mw_get (ci := 9) (v := .ref (G.1 + (h + 69))) (C := RX9) (T := TX9) (N := 8) hx hb ht inX9 hown hSt hP kh (by decide) (mk9 kh) rfl 2 (by decide) (ht _ wf_RX9_22) rfl rfl dX9_strong_60 ?_
        refine lv_iload_n hx hb dX9_strong_63 rfl (lv_at hl 2 rfl) ?_
        refine lv_iload_n hx hb dX9_strong_64 rfl (lv_at hl 3 rfl) ?_
        refine mw_V (As := [.int v2, .int v3]) (rest := []) (T := TX1) (N := 9) (n := 2) ⟨hx, hb, hml, hown, hts⟩ (so_X1_passHoursFor l G (h + 69) v2 v3 M_6 _ hw) wm_RX9_206 wi_yX1_passHoursFor wv_yX1_passHoursFor wn_RX1 wc_yX1_passHoursFor (by decide) ⟨Nat.le_of_ble_eq_true rfl, Nat.le_of_ble_eq_true rfl⟩ ⟨rfl, rfl⟩ (ks9_2 kh) (by decide) (mk1 (ks9_2 kh)) rfl hSt hTb hP hS rfl hl.1 rfl (Nat.le_of_ble_eq_true rfl) dX9_strong_65 ⟨Nat.le_refl 0, Nat.le_refl 0⟩ (fun rr_ M_7 H locs hq hP hS => ?_)
        obtain ⟨r_8, rfl, hw⟩ := hq
        refine lv_pop hx hb dX9_strong_68 rfl ?_
        refine lv_aload_n hx hb dX9_strong_69 rfl (lv_at hl 0 rfl) ?_
        refine mw_get (ci := 9) (v := .ref (G.1 + (h + 69))) (C := RX9) (T := TX9) (N := 8) hx hb ht inX9 hown hSt hP kh (by decide) (mk9 kh) rfl 2 (by decide) (ht _ wf_RX9_22) rfl rfl dX9_strong_70 ?_
        refine mw_get (ci := 1) (v := .ref (G.1 + (h + 69 + 13))) (C := RX1) (T := TX1) (N := 9) hx hb ht inX1 hown hSt hP (ks9_2 kh) (by decide) (mk1 (ks9_2 kh)) rfl 4 (by decide) (ht _ wf_RX9_106) rfl rfl dX9_strong_73 ?_
        refine lv_iload_n hx hb dX9_strong_76 rfl (lv_at hl 2 rfl) ?_
        obtain ⟨c_9, hw⟩ := hw
        refine mw_aald13 hx hb hSt hP (ks1_4 (ks9_2 kh)) (by rw [(ln1_4 (ks9_2 kh))]; exact c_9) dX9_strong_77 ?_
        refine mw_get (ci := 5) (v := .int (M_7 (h + 69 + 13 + 9 + v2.toNatClampNeg) 5)) (C := RX5) (T := TX5) (N := 6) hx hb ht inX5 hown hSt hP (ke13 (ks1_4 (ks9_2 kh)) (vp_lt (by rw [(ln1_4 (ks9_2 kh))]; exact c_9))) (by decide) (mk5 (ke13 (ks1_4 (ks9_2 kh)) (vp_lt (by rw [(ln1_4 (ks9_2 kh))]; exact c_9)))) rfl 5 (by decide) (ht _ wf_RX9_127) rfl rfl dX9_strong_78 ?_
        refine lv_if_eq (tgt := 87) hx hb dX9_strong_81 (by decide) (fun c_10 => ?_) (fun c_10 => ?_)
        · have hw := hw.1 c_10
          obtain ⟨x_11, ex_11⟩ : ∃ z : Int32, z = v4 + 1 := ⟨_, rfl⟩
          have hw := hw x_11 ex_11
          refine lv_iinc (v := x_11) (lv' := [(4, .int x_11), (0, .ref (G.1 + h)), (1, .int v1), (2, .int v2), (3, .int v3)]) hx hb dX9_strong_87 hl (k := 4) rfl (by rw [ex_11]; rfl) (by decide) rfl (fun ls hl => ?_)
          refine lv_goto (tgt := 34) hx hb dX9_strong_90 (by decide) ?_
          exact ih34 x_11 M_7 _ _ _ hw hP hS (lv_sub hl [1, 2, 3, 4, 0] rfl)
        · have hw := hw.2 c_10
          refine lv_iload hx hb dX9_strong_84 (lv_at hl 4 rfl) ?_
          exact W.iret hx hb hr (mw_end hP hSt hTb hS ⟨_, rfl, hw⟩) hS.2.2 dX9_strong_86
  have J_25 : ∀  (M : Mem) (H : Heap) (locs : List Loc) (ls : Array Slot), b_X9_strong_25 h Q M → va_P G.2.1 clsA (wl G M) H → va_S (inW G) s.heap H locs → lv_has ls 5 [(0, .ref (G.1 + h))] → W p l e ({ frames := 6, cells := 0, slots := 0, locals := 168 } : Room) s m ([.ref (G.1 + h), .int a1, .int a2, .int a3] : List Value).toArray below meth c H locs 0 0 (MQ below (Pq G (Qi Q)) ([.ref (G.1 + h), .int a1, .int a2, .int a3] : List Value).toArray s 0 0 (inW G)) (F0 m 25 ls []) := by
    intro  M H locs ls  hw hP hS hl
    unfold b_X9_strong_25 at hw
    refine lv_aload_n hx hb dX9_strong_25 rfl (lv_at hl 0 rfl) ?_
    refine lv_iconst (v := 1) hx hb dX9_strong_26 (by decide) ?_
    refine mw_V (As := [.int 1]) (rest := []) (T := TX9) (N := 8) (n := 1) ⟨hx, hb, hml, hown, hts⟩ (so_X9_refuse l G h 1 M _ hw) wm_RX9_59 wi_yX9_refuse wv_yX9_refuse wn_RX9 wc_yX9_refuse (by decide) ⟨Nat.le_of_ble_eq_true rfl, Nat.le_of_ble_eq_true rfl⟩ ⟨rfl, rfl⟩ kh (by decide) (mk9 kh) rfl hSt hTb hP hS rfl hl.1 rfl (Nat.le_of_ble_eq_true rfl) dX9_strong_27 ⟨Nat.le_refl 0, Nat.le_refl 0⟩ (fun rr_ M_12 H locs hq hP hS => ?_)
    obtain ⟨r_13, rfl, hw⟩ := hq
    exact W.iret hx hb hr (mw_end hP hSt hTb hS ⟨_, rfl, hw⟩) hS.2.2 dX9_strong_30
  refine lv_aload_n hx hb dX9_strong_0 rfl (lv_at hl 0 rfl) ?_
  refine lv_iload_n hx hb dX9_strong_1 rfl (lv_at hl 1 rfl) ?_
  refine mw_V (As := [.int a1]) (rest := []) (T := TX9) (N := 8) (n := 1) ⟨hx, hb, hml, hown, hts⟩ (so_X9_isSeeker l G h a1 M _ hw) wm_RX9_91 wi_yX9_isSeeker wv_yX9_isSeeker wn_RX9 wc_yX9_isSeeker (by decide) ⟨Nat.le_of_ble_eq_true rfl, Nat.le_of_ble_eq_true rfl⟩ ⟨rfl, rfl⟩ kh (by decide) (mk9 kh) rfl hSt hTb hP hS rfl hl.1 rfl (Nat.le_of_ble_eq_true rfl) dX9_strong_2 ⟨Nat.le_refl 0, Nat.le_refl 0⟩ (fun rr_ M_14 H locs hq hP hS => ?_)
  obtain ⟨r_15, rfl, hw⟩ := hq
  refine lv_if_eq (tgt := 25) hx hb dX9_strong_5 (by decide) (fun c_16 => ?_) (fun c_16 => ?_)
  · have hw := hw.1 c_16
    exact J_25 M_14 _ _ _ hw hP hS (lv_sub hl [0] rfl)
  · have hw := hw.2 c_16
    refine lv_aload_n hx hb dX9_strong_8 rfl (lv_at hl 0 rfl) ?_
    refine lv_iload_n hx hb dX9_strong_9 rfl (lv_at hl 2 rfl) ?_
    refine mw_V (As := [.int a2]) (rest := []) (T := TX9) (N := 8) (n := 1) ⟨hx, hb, hml, hown, hts⟩ (so_X9_isSheep l G h a2 M_14 _ hw) wm_RX9_131 wi_yX9_isSheep wv_yX9_isSheep wn_RX9 wc_yX9_isSheep (by decide) ⟨Nat.le_of_ble_eq_true rfl, Nat.le_of_ble_eq_true rfl⟩ ⟨rfl, rfl⟩ kh (by decide) (mk9 kh) rfl hSt hTb hP hS rfl hl.1 rfl (Nat.le_of_ble_eq_true rfl) dX9_strong_10 ⟨Nat.le_refl 0, Nat.le_refl 0⟩ (fun rr_ M_17 H locs hq hP hS => ?_)
    obtain ⟨r_18, rfl, hw⟩ := hq
    refine lv_if_eq (tgt := 25) hx hb dX9_strong_13 (by decide) (fun c_19 => ?_) (fun c_19 => ?_)
    · have hw := hw.1 c_19
      exact J_25 M_17 _ _ _ hw hP hS (lv_sub hl [0] rfl)
    · have hw := hw.2 c_19
      refine lv_iload_n hx hb dX9_strong_16 rfl (lv_at hl 3 rfl) ?_
      refine lv_bipush (v := 20) hx hb dX9_strong_17 (by decide) ?_
      refine mw_Sx (As := [.int a3, .int 20]) (rest := []) (n := 2) ⟨hx, hb, hml, hown, hts⟩ (so_X9_isWithin l G a3 20 M_17 _ hw) wm_RX9_55 wt_yX9_isWithin wn_RX9 wc_yX9_isWithin (by decide) ⟨Nat.le_of_ble_eq_true rfl, Nat.le_of_ble_eq_true rfl⟩ ⟨rfl, rfl⟩ hSt hTb hP hS rfl hl.1 rfl (Nat.le_of_ble_eq_true rfl) dX9_strong_19 ⟨Nat.le_refl 0, Nat.le_refl 0⟩ (fun rr_ M_20 H locs hq hP hS => ?_)
      obtain ⟨r_21, rfl, hw⟩ := hq
      refine lv_if_ne (tgt := 31) hx hb dX9_strong_22 (by decide) (fun c_22 => ?_) (fun c_22 => ?_)
      · have hw := hw.1 c_22
        refine lv_iconst (v := 0) hx hb dX9_strong_31 (by decide) ?_
        refine lv_istore (lv' := [(4, .int 0), (0, .ref (G.1 + h)), (1, .int a1), (2, .int a2), (3, .int a3)]) hx hb dX9_strong_32 hl (by decide) rfl (fun ls hl => ?_)
        obtain ⟨n_, hw⟩ := hw
        exact L_34 a1 a2 a3 n_ 0 M_20 _ _ _ hw hP hS (lv_sub hl [1, 2, 3, 4, 0] rfl)
      · have hw := hw.2 c_22
        exact J_25 M_20 _ _ _ hw hP hS (lv_sub hl [0] rfl)
def b_X9_partOfFraction_36 (Q : Int32 → Mem → Prop) (K14 : Int32 → Mem → Prop) (v0 : Int32) (v2 : Int32) (v3 : Int32) (M : Mem) : Prop :=
  ∀ x_1 : Int32, x_1 = v3 + (-1) → K14 x_1 M
def B_X9_partOfFraction_14 (Q : Int32 → Mem → Prop) (v0 : Int32) (v2 : Int32) (K14 : Int32 → Mem → Prop) (v3 : Int32) (M : Mem) : Prop :=
  (v3 < 2 → Q v2 M) ∧ (¬ v3 < 2 → ¬ v3 = 0 ∧ ((¬ (irm v0 v3) = 0 → b_X9_partOfFraction_36 Q K14 v0 v2 v3 M) ∧ ((irm v0 v3) = 0 → ¬ v3 = 0 ∧ ((¬ (irm 10 v3) = 0 → b_X9_partOfFraction_36 Q K14 v0 v2 v3 M) ∧ ((irm 10 v3) = 0 → ¬ v3 = 0 ∧ (Q (v2 / v3) M))))))
def l_X9_partOfFraction_14 (Q : Int32 → Mem → Prop) (v0 : Int32) (v2 : Int32) : Nat → Int32 → Mem → Prop
  | 0 => fun _ _ => False
  | n + 1 => B_X9_partOfFraction_14 Q v0 v2 (l_X9_partOfFraction_14 Q v0 v2 n)
def b_X9_partOfFraction_10 (Q : Int32 → Mem → Prop) (v0 : Int32) (s0 : Int32) (M : Mem) : Prop :=
  ∃ n, l_X9_partOfFraction_14 Q v0 s0 n 10 M
def wp_X9_partOfFraction (a0 : Int32) (a1 : Int32) (M : Mem) (Q : Int32 → Mem → Prop) : Prop :=
  (¬ a1 = 0 → b_X9_partOfFraction_10 Q a0 10 M) ∧ (a1 = 0 → b_X9_partOfFraction_10 Q a0 a0 M)
set_option maxHeartbeats 4000000 in
set_option maxRecDepth 100000 in
theorem so_X9_partOfFraction (l : Launch) (G : Gm) (a0 : Int32) (a1 : Int32) (M : Mem) (Q : Int32 → Mem → Prop) (hw : wp_X9_partOfFraction a0 a1 M Q) : Ct l G yX9_partOfFraction cX9_partOfFraction 4 (some .int) ({ frames := 0, cells := 0, slots := 0, locals := 0 } : Room) [.int a0, .int a1] M (Qi Q) := by
  unfold wp_X9_partOfFraction at hw
  refine ct_of (by decide) (Nat.le_of_ble_eq_true rfl) ?_
  intro p e s m below meth c E_ ls H hl hP hS
  obtain ⟨hx, hb, hml, hown, hts, ht, hr, hlocks, hSt, hTb⟩ := E_
  have hl : lv_has ls 4 [(0, .int a0), (1, .int a1)] := hl
  have L_14 : ∀ (v0 : Int32) (v2 : Int32), ∀ (n14 : Nat) (v3 : Int32) (M : Mem) (H : Heap) (locs : List Loc) (ls : Array Slot), l_X9_partOfFraction_14 Q v0 v2 n14 v3 M → va_P G.2.1 clsA (wl G M) H → va_S (inW G) s.heap H locs → lv_has ls 4 [(0, .int v0), (2, .int v2), (3, .int v3)] → W p l e ({ frames := 0, cells := 0, slots := 0, locals := 0 } : Room) s m ([.int a0, .int a1] : List Value).toArray below meth c H locs 0 0 (MQ below (Pq G (Qi Q)) ([.int a0, .int a1] : List Value).toArray s 0 0 (inW G)) (F0 m 14 ls []) := by
    intro v0 v2  n14
    induction n14 with
    | zero => intro v3 M H locs ls  hw hP hS hl; exact False.elim hw
    | succ n14 ih14 =>
      have J_36 : ∀ (v3 : Int32) (M : Mem) (H : Heap) (locs : List Loc) (ls : Array Slot), b_X9_partOfFraction_36 Q (l_X9_partOfFraction_14 Q v0 v2 n14) v0 v2 v3 M → va_P G.2.1 clsA (wl G M) H → va_S (inW G) s.heap H locs → lv_has ls 4 [(0, .int v0), (2, .int v2), (3, .int v3)] → W p l e ({ frames := 0, cells := 0, slots := 0, locals := 0 } : Room) s m ([.int a0, .int a1] : List Value).toArray below meth c H locs 0 0 (MQ below (Pq G (Qi Q)) ([.int a0, .int a1] : List Value).toArray s 0 0 (inW G)) (F0 m 36 ls []) := by
        intro v3 M H locs ls  hw hP hS hl
        unfold b_X9_partOfFraction_36 at hw
        obtain ⟨x_1, ex_1⟩ : ∃ z : Int32, z = v3 + (-1) := ⟨_, rfl⟩
        have hw := hw x_1 ex_1
        refine lv_iinc (v := x_1) (lv' := [(3, .int x_1), (0, .int v0), (2, .int v2)]) hx hb dX9_partOfFraction_36 hl (k := 2) rfl (by rw [ex_1]; rfl) (by decide) rfl (fun ls hl => ?_)
        refine lv_goto (tgt := 14) hx hb dX9_partOfFraction_39 (by decide) ?_
        exact ih14 x_1 M _ _ _ hw hP hS (lv_sub hl [1, 2, 0] rfl)
      intro v3 M H locs ls  hw hP hS hl
      have hw : B_X9_partOfFraction_14 Q v0 v2 (l_X9_partOfFraction_14 Q v0 v2 n14) v3 M := hw
      unfold B_X9_partOfFraction_14 at hw
      refine lv_iload_n hx hb dX9_partOfFraction_14 rfl (lv_at hl 2 rfl) ?_
      refine lv_iconst (v := 2) hx hb dX9_partOfFraction_15 (by decide) ?_
      refine lv_icmp_lt (tgt := 42) hx hb dX9_partOfFraction_16 (by decide) (fun c_2 => ?_) (fun c_2 => ?_)
      · have hw := hw.1 c_2
        refine lv_iload_n hx hb dX9_partOfFraction_42 rfl (lv_at hl 1 rfl) ?_
        exact W.iret hx hb hr (mw_end hP hSt hTb hS ⟨_, rfl, hw⟩) hS.2.2 dX9_partOfFraction_43
      · have hw := hw.2 c_2
        refine lv_iload_n hx hb dX9_partOfFraction_19 rfl (lv_at hl 0 rfl) ?_
        refine lv_iload_n hx hb dX9_partOfFraction_20 rfl (lv_at hl 2 rfl) ?_
        obtain ⟨c_3, hw⟩ := hw
        refine lv_irem hx hb dX9_partOfFraction_21 c_3 ?_
        refine lv_if_ne (tgt := 36) hx hb dX9_partOfFraction_22 (by decide) (fun c_4 => ?_) (fun c_4 => ?_)
        · have hw := hw.1 c_4
          exact J_36 v3 M _ _ _ hw hP hS (lv_sub hl [0, 1, 2] rfl)
        · have hw := hw.2 c_4
          refine lv_bipush (v := 10) hx hb dX9_partOfFraction_25 (by decide) ?_
          refine lv_iload_n hx hb dX9_partOfFraction_27 rfl (lv_at hl 2 rfl) ?_
          obtain ⟨c_5, hw⟩ := hw
          refine lv_irem hx hb dX9_partOfFraction_28 c_5 ?_
          refine lv_if_ne (tgt := 36) hx hb dX9_partOfFraction_29 (by decide) (fun c_6 => ?_) (fun c_6 => ?_)
          · have hw := hw.1 c_6
            exact J_36 v3 M _ _ _ hw hP hS (lv_sub hl [0, 1, 2] rfl)
          · have hw := hw.2 c_6
            refine lv_iload_n hx hb dX9_partOfFraction_32 rfl (lv_at hl 1 rfl) ?_
            refine lv_iload_n hx hb dX9_partOfFraction_33 rfl (lv_at hl 2 rfl) ?_
            obtain ⟨c_7, hw⟩ := hw
            refine lv_idiv hx hb dX9_partOfFraction_34 c_7 ?_
            exact W.iret hx hb hr (mw_end hP hSt hTb hS ⟨_, rfl, hw⟩) hS.2.2 dX9_partOfFraction_35
  have J_10 : ∀ (v0 : Int32) (s0 : Int32) (M : Mem) (H : Heap) (locs : List Loc) (ls : Array Slot), b_X9_partOfFraction_10 Q v0 s0 M → va_P G.2.1 clsA (wl G M) H → va_S (inW G) s.heap H locs → lv_has ls 4 [(0, .int v0)] → W p l e ({ frames := 0, cells := 0, slots := 0, locals := 0 } : Room) s m ([.int a0, .int a1] : List Value).toArray below meth c H locs 0 0 (MQ below (Pq G (Qi Q)) ([.int a0, .int a1] : List Value).toArray s 0 0 (inW G)) (F0 m 10 ls [.int s0]) := by
    intro v0 s0 M H locs ls  hw hP hS hl
    unfold b_X9_partOfFraction_10 at hw
    refine lv_istore_n (lv' := [(2, .int s0), (0, .int v0)]) hx hb dX9_partOfFraction_10 rfl hl (by decide) rfl (fun ls hl => ?_)
    refine lv_bipush (v := 10) hx hb dX9_partOfFraction_11 (by decide) ?_
    refine lv_istore_n (lv' := [(3, .int 10), (2, .int s0), (0, .int v0)]) hx hb dX9_partOfFraction_13 rfl hl (by decide) rfl (fun ls hl => ?_)
    obtain ⟨n_, hw⟩ := hw
    exact L_14 v0 s0 n_ 10 M _ _ _ hw hP hS (lv_sub hl [2, 1, 0] rfl)
  refine lv_iload_n hx hb dX9_partOfFraction_0 rfl (lv_at hl 1 rfl) ?_
  refine lv_if_ne (tgt := 8) hx hb dX9_partOfFraction_1 (by decide) (fun c_8 => ?_) (fun c_8 => ?_)
  · have hw := hw.1 c_8
    refine lv_bipush (v := 10) hx hb dX9_partOfFraction_8 (by decide) ?_
    exact J_10 a0 10 M _ _ _ hw hP hS (lv_sub hl [0] rfl)
  · have hw := hw.2 c_8
    refine lv_iload_n hx hb dX9_partOfFraction_4 rfl (lv_at hl 0 rfl) ?_
    refine lv_goto (tgt := 10) hx hb dX9_partOfFraction_5 (by decide) ?_
    exact J_10 a0 a0 M _ _ _ hw hP hS (lv_sub hl [0] rfl)
def b_X9_odds_90 (h : Nat) (Q : Int32 → Mem → Prop) (K37 : Int32 → Int32 → Mem → Prop) (v1 : Int32) (v2 : Int32) (v3 : Int32) (v4 : Int32) (v5 : Int32) (M : Mem) : Prop :=
  ∀ x_1 : Int32, x_1 = v5 + 1 → K37 v4 x_1 M
def B_X9_odds_37 (h : Nat) (Q : Int32 → Mem → Prop) (v1 : Int32) (v2 : Int32) (v3 : Int32) (K37 : Int32 → Int32 → Mem → Prop) (v4 : Int32) (v5 : Int32) (M : Mem) : Prop :=
  (10 ≤ v5 → wp_X9_partOfFraction v4 v3 M (fun r_4 M_3 => Q r_4 M_3)) ∧ (¬ 10 ≤ v5 → wp_X9_thinkFromNow h M (fun M_5 => vp_in v1 7 ∧ (∀ M_7, M_7 = mu M_5 (h + 69 + 13 + 9 + v1.toNatClampNeg) 2 v5 → wp_X1_passHoursFor (h + 69) v1 v2 M_7 (fun r_9 M_8 => vp_in v1 7 ∧ (((M_8 (h + 69 + 13 + 9 + v1.toNatClampNeg) 5) = 0 → b_X9_odds_90 h Q K37 v1 v2 v3 v4 v5 M_8) ∧ (¬ (M_8 (h + 69 + 13 + 9 + v1.toNatClampNeg) 5) = 0 → ∀ x_12 : Int32, x_12 = v4 + 1 → b_X9_odds_90 h Q K37 v1 v2 v3 x_12 v5 M_8))))))
def l_X9_odds_37 (h : Nat) (Q : Int32 → Mem → Prop) (v1 : Int32) (v2 : Int32) (v3 : Int32) : Nat → Int32 → Int32 → Mem → Prop
  | 0 => fun _ _ _ => False
  | n + 1 => B_X9_odds_37 h Q v1 v2 v3 (l_X9_odds_37 h Q v1 v2 v3 n)
def b_X9_odds_25 (h : Nat) (Q : Int32 → Mem → Prop) (M : Mem) : Prop :=
  wp_X9_refuse h 1 M (fun r_14 M_13 => Q r_14 M_13)
def wp_X9_odds (h : Nat) (a1 : Int32) (a2 : Int32) (a3 : Int32) (M : Mem) (Q : Int32 → Mem → Prop) : Prop :=
  kdT h = 9 ∧ (wp_X9_isSheep h a1 M (fun r_16 M_15 => (r_16 = 0 → b_X9_odds_25 h Q M_15) ∧ (¬ r_16 = 0 → wp_X9_isWithin a2 60 M_15 (fun r_19 M_18 => (r_19 = 0 → b_X9_odds_25 h Q M_18) ∧ (¬ r_19 = 0 → wp_X9_isWithin a3 1 M_18 (fun r_22 M_21 => (¬ r_22 = 0 → ∃ n, l_X9_odds_37 h Q a1 a2 a3 n 0 0 M_21) ∧ (r_22 = 0 → b_X9_odds_25 h Q M_21)))))))
set_option maxHeartbeats 4000000 in
set_option maxRecDepth 100000 in
theorem so_X9_odds (l : Launch) (G : Gm) (h : Nat) (a1 : Int32) (a2 : Int32) (a3 : Int32) (M : Mem) (Q : Int32 → Mem → Prop) (hw : wp_X9_odds h a1 a2 a3 M Q) : Ct l G yX9_odds cX9_odds 6 (some .int) ({ frames := 6, cells := 0, slots := 0, locals := 168 } : Room) [.ref (G.1 + h), .int a1, .int a2, .int a3] M (Qi Q) := by
  unfold wp_X9_odds at hw
  obtain ⟨kh, hw⟩ := hw
  refine ct_of (by decide) (Nat.le_of_ble_eq_true rfl) ?_
  intro p e s m below meth c E_ ls H hl hP hS
  obtain ⟨hx, hb, hml, hown, hts, ht, hr, hlocks, hSt, hTb⟩ := E_
  have hl : lv_has ls 6 [(0, .ref (G.1 + h)), (1, .int a1), (2, .int a2), (3, .int a3)] := hl
  have L_37 : ∀ (v1 : Int32) (v2 : Int32) (v3 : Int32), ∀ (n37 : Nat) (v4 : Int32) (v5 : Int32) (M : Mem) (H : Heap) (locs : List Loc) (ls : Array Slot), l_X9_odds_37 h Q v1 v2 v3 n37 v4 v5 M → va_P G.2.1 clsA (wl G M) H → va_S (inW G) s.heap H locs → lv_has ls 6 [(0, .ref (G.1 + h)), (1, .int v1), (2, .int v2), (3, .int v3), (4, .int v4), (5, .int v5)] → W p l e ({ frames := 6, cells := 0, slots := 0, locals := 168 } : Room) s m ([.ref (G.1 + h), .int a1, .int a2, .int a3] : List Value).toArray below meth c H locs 0 0 (MQ below (Pq G (Qi Q)) ([.ref (G.1 + h), .int a1, .int a2, .int a3] : List Value).toArray s 0 0 (inW G)) (F0 m 37 ls []) := by
    intro v1 v2 v3  n37
    induction n37 with
    | zero => intro v4 v5 M H locs ls  hw hP hS hl; exact False.elim hw
    | succ n37 ih37 =>
      have J_90 : ∀ (v4 : Int32) (v5 : Int32) (M : Mem) (H : Heap) (locs : List Loc) (ls : Array Slot), b_X9_odds_90 h Q (l_X9_odds_37 h Q v1 v2 v3 n37) v1 v2 v3 v4 v5 M → va_P G.2.1 clsA (wl G M) H → va_S (inW G) s.heap H locs → lv_has ls 6 [(0, .ref (G.1 + h)), (1, .int v1), (2, .int v2), (3, .int v3), (4, .int v4), (5, .int v5)] → W p l e ({ frames := 6, cells := 0, slots := 0, locals := 168 } : Room) s m ([.ref (G.1 + h), .int a1, .int a2, .int a3] : List Value).toArray below meth c H locs 0 0 (MQ below (Pq G (Qi Q)) ([.ref (G.1 + h), .int a1, .int a2, .int a3] : List Value).toArray s 0 0 (inW G)) (F0 m 90 ls []) := by
        intro v4 v5 M H locs ls  hw hP hS hl
        unfold b_X9_odds_90 at hw
        obtain ⟨x_1, ex_1⟩ : ∃ z : Int32, z = v5 + 1 := ⟨_, rfl⟩
        have hw := hw x_1 ex_1
        refine lv_iinc (v := x_1) (lv' := [(5, .int x_1), (0, .ref (G.1 + h)), (1, .int v1), (2, .int v2), (3, .int v3), (4, .int v4)]) hx hb dX9_odds_90 hl (k := 5) rfl (by rw [ex_1]; rfl) (by decide) rfl (fun ls hl => ?_)
        refine lv_goto (tgt := 37) hx hb dX9_odds_93 (by decide) ?_
        exact ih37 v4 x_1 M _ _ _ hw hP hS (lv_sub hl [1, 2, 3, 4, 5, 0] rfl)
      intro v4 v5 M H locs ls  hw hP hS hl
      have hw : B_X9_odds_37 h Q v1 v2 v3 (l_X9_odds_37 h Q v1 v2 v3 n37) v4 v5 M := hw
      unfold B_X9_odds_37 at hw
      refine lv_iload hx hb dX9_odds_37 (lv_at hl 5 rfl) ?_
      refine lv_bipush (v := 10) hx hb dX9_odds_39 (by decide) ?_
      refine lv_icmp_ge (tgt := 96) hx hb dX9_odds_41 (by decide) (fun c_2 => ?_) (fun c_2 => ?_)
      · have hw := hw.1 c_2
        refine lv_iload hx hb dX9_odds_96 (lv_at hl 4 rfl) ?_
        refine lv_iload_n hx hb dX9_odds_98 rfl (lv_at hl 3 rfl) ?_
        refine mw_Sx (As := [.int v4, .int v3]) (rest := []) (n := 2) ⟨hx, hb, hml, hown, hts⟩ (so_X9_partOfFraction l G v4 v3 M _ hw) wm_RX9_241 wt_yX9_partOfFraction wn_RX9 wc_yX9_partOfFraction (by decide) ⟨Nat.le_of_ble_eq_true rfl, Nat.le_of_ble_eq_true rfl⟩ ⟨rfl, rfl⟩ hSt hTb hP hS rfl hl.1 rfl (Nat.le_of_ble_eq_true rfl) dX9_odds_99 ⟨Nat.le_refl 0, Nat.le_refl 0⟩ (fun rr_ M_3 H locs hq hP hS => ?_)
        obtain ⟨r_4, rfl, hw⟩ := hq
        exact W.iret hx hb hr (mw_end hP hSt hTb hS ⟨_, rfl, hw⟩) hS.2.2 dX9_odds_102
      · have hw := hw.2 c_2
        refine lv_aload_n hx hb dX9_odds_44 rfl (lv_at hl 0 rfl) ?_
        refine mw_V (As := []) (rest := []) (T := TX9) (N := 8) (n := 0) ⟨hx, hb, hml, hown, hts⟩ (so_X9_thinkFromNow l G h M _ hw) wm_RX9_200 wi_yX9_thinkFromNow wv_yX9_thinkFromNow wn_RX9 wc_yX9_thinkFromNow (by decide) ⟨Nat.le_of_ble_eq_true rfl, Nat.le_of_ble_eq_true rfl⟩ ⟨rfl, rfl⟩ kh (by decide) (mk9 kh) rfl hSt hTb hP hS rfl hl.1 rfl (Nat.le_of_ble_eq_true rfl) dX9_odds_45 ⟨Nat.le_refl 0, Nat.le_refl 0⟩ (fun rr_ M_5 H locs hq hP hS => ?_)
        obtain ⟨rfl, hw⟩ := hq
        refine lv_aload_n hx hb dX9_odds_48 rfl (lv_at hl 0 rfl) ?_
        refine mw_get (ci := 9) (v := .ref (G.1 + (h + 69))) (C := RX9) (T := TX9) (N := 8) hx hb ht inX9 hown hSt hP kh (by decide) (mk9 kh) rfl 2 (by decide) (ht _ wf_RX9_22) rfl rfl dX9_odds_49 ?_
        refine mw_get (ci := 1) (v := .ref (G.1 + (h + 69 + 13))) (C := RX1) (T := TX1) (N := 9) hx hb ht inX1 hown hSt hP (ks9_2 kh) (by decide) (mk1 (ks9_2 kh)) rfl 4 (by decide) (ht _ wf_RX9_106) rfl rfl dX9_odds_52 ?_
        refine lv_iload_n hx hb dX9_odds_55 rfl (lv_at hl 1 rfl) ?_
        obtain ⟨c_6, hw⟩ := hw
        refine mw_aald13 hx hb hSt hP (ks1_4 (ks9_2 kh)) (by rw [(ln1_4 (ks9_2 kh))]; exact c_6) dX9_odds_56 ?_
        refine lv_iload hx hb dX9_odds_57 (lv_at hl 5 rfl) ?_
        refine mw_put (ci := 5) (v := v5) (ty := .int) (C := RX5) (T := TX5) (N := 6) hx hb ht inX5 tyX5 tyX5_ok nmX5 hown hSt hP hS (ke13 (ks1_4 (ks9_2 kh)) (vp_lt (by rw [(ln1_4 (ks9_2 kh))]; exact c_6))) (by decide) (mk5 (ke13 (ks1_4 (ks9_2 kh)) (vp_lt (by rw [(ln1_4 (ks9_2 kh))]; exact c_6)))) rfl 2 (by decide) (ht _ wf_RX9_118) rfl rfl (by decide +kernel) (vp_nar_int _) rfl (Nat.le_of_ble_eq_true rfl) (by rw [mk5 (ke13 (ks1_4 (ks9_2 kh)) (vp_lt (by rw [(ln1_4 (ks9_2 kh))]; exact c_6)))]; simp [mu]) dX9_odds_59 (fun M_7 H locs eM_7 hP hS => ?_)
        have hw := hw M_7 eM_7
        refine lv_aload_n hx hb dX9_odds_62 rfl (lv_at hl 0 rfl) ?_
        refine mw_get (ci := 9) (v := .ref (G.1 + (h + 69))) (C := RX9) (T := TX9) (N := 8) hx hb ht inX9 hown hSt hP kh (by decide) (mk9 kh) rfl 2 (by decide) (ht _ wf_RX9_22) rfl rfl dX9_odds_63 ?_
        refine lv_iload_n hx hb dX9_odds_66 rfl (lv_at hl 1 rfl) ?_
        refine lv_iload_n hx hb dX9_odds_67 rfl (lv_at hl 2 rfl) ?_
        refine mw_V (As := [.int v1, .int v2]) (rest := []) (T := TX1) (N := 9) (n := 2) ⟨hx, hb, hml, hown, hts⟩ (so_X1_passHoursFor l G (h + 69) v1 v2 M_7 _ hw) wm_RX9_206 wi_yX1_passHoursFor wv_yX1_passHoursFor wn_RX1 wc_yX1_passHoursFor (by decide) ⟨Nat.le_of_ble_eq_true rfl, Nat.le_of_ble_eq_true rfl⟩ ⟨rfl, rfl⟩ (ks9_2 kh) (by decide) (mk1 (ks9_2 kh)) rfl hSt hTb hP hS rfl hl.1 rfl (Nat.le_of_ble_eq_true rfl) dX9_odds_68 ⟨Nat.le_refl 0, Nat.le_refl 0⟩ (fun rr_ M_8 H locs hq hP hS => ?_)
        obtain ⟨r_9, rfl, hw⟩ := hq
        refine lv_pop hx hb dX9_odds_71 rfl ?_
        refine lv_aload_n hx hb dX9_odds_72 rfl (lv_at hl 0 rfl) ?_
        refine mw_get (ci := 9) (v := .ref (G.1 + (h + 69))) (C := RX9) (T := TX9) (N := 8) hx hb ht inX9 hown hSt hP kh (by decide) (mk9 kh) rfl 2 (by decide) (ht _ wf_RX9_22) rfl rfl dX9_odds_73 ?_
        refine mw_get (ci := 1) (v := .ref (G.1 + (h + 69 + 13))) (C := RX1) (T := TX1) (N := 9) hx hb ht inX1 hown hSt hP (ks9_2 kh) (by decide) (mk1 (ks9_2 kh)) rfl 4 (by decide) (ht _ wf_RX9_106) rfl rfl dX9_odds_76 ?_
        refine lv_iload_n hx hb dX9_odds_79 rfl (lv_at hl 1 rfl) ?_
        obtain ⟨c_10, hw⟩ := hw
        refine mw_aald13 hx hb hSt hP (ks1_4 (ks9_2 kh)) (by rw [(ln1_4 (ks9_2 kh))]; exact c_10) dX9_odds_80 ?_
        refine mw_get (ci := 5) (v := .int (M_8 (h + 69 + 13 + 9 + v1.toNatClampNeg) 5)) (C := RX5) (T := TX5) (N := 6) hx hb ht inX5 hown hSt hP (ke13 (ks1_4 (ks9_2 kh)) (vp_lt (by rw [(ln1_4 (ks9_2 kh))]; exact c_10))) (by decide) (mk5 (ke13 (ks1_4 (ks9_2 kh)) (vp_lt (by rw [(ln1_4 (ks9_2 kh))]; exact c_10)))) rfl 5 (by decide) (ht _ wf_RX9_127) rfl rfl dX9_odds_81 ?_
        refine lv_if_eq (tgt := 90) hx hb dX9_odds_84 (by decide) (fun c_11 => ?_) (fun c_11 => ?_)
        · have hw := hw.1 c_11
          exact J_90 v4 v5 M_8 _ _ _ hw hP hS (lv_sub hl [0, 1, 2, 3, 4, 5] rfl)
        · have hw := hw.2 c_11
          obtain ⟨x_12, ex_12⟩ : ∃ z : Int32, z = v4 + 1 := ⟨_, rfl⟩
          have hw := hw x_12 ex_12
          refine lv_iinc (v := x_12) (lv' := [(4, .int x_12), (0, .ref (G.1 + h)), (1, .int v1), (2, .int v2), (3, .int v3), (5, .int v5)]) hx hb dX9_odds_87 hl (k := 4) rfl (by rw [ex_12]; rfl) (by decide) rfl (fun ls hl => ?_)
          exact J_90 x_12 v5 M_8 _ _ _ hw hP hS (lv_sub hl [1, 2, 3, 4, 0, 5] rfl)
  have J_25 : ∀  (M : Mem) (H : Heap) (locs : List Loc) (ls : Array Slot), b_X9_odds_25 h Q M → va_P G.2.1 clsA (wl G M) H → va_S (inW G) s.heap H locs → lv_has ls 6 [(0, .ref (G.1 + h))] → W p l e ({ frames := 6, cells := 0, slots := 0, locals := 168 } : Room) s m ([.ref (G.1 + h), .int a1, .int a2, .int a3] : List Value).toArray below meth c H locs 0 0 (MQ below (Pq G (Qi Q)) ([.ref (G.1 + h), .int a1, .int a2, .int a3] : List Value).toArray s 0 0 (inW G)) (F0 m 25 ls []) := by
    intro  M H locs ls  hw hP hS hl
    unfold b_X9_odds_25 at hw
    refine lv_aload_n hx hb dX9_odds_25 rfl (lv_at hl 0 rfl) ?_
    refine lv_iconst (v := 1) hx hb dX9_odds_26 (by decide) ?_
    refine mw_V (As := [.int 1]) (rest := []) (T := TX9) (N := 8) (n := 1) ⟨hx, hb, hml, hown, hts⟩ (so_X9_refuse l G h 1 M _ hw) wm_RX9_59 wi_yX9_refuse wv_yX9_refuse wn_RX9 wc_yX9_refuse (by decide) ⟨Nat.le_of_ble_eq_true rfl, Nat.le_of_ble_eq_true rfl⟩ ⟨rfl, rfl⟩ kh (by decide) (mk9 kh) rfl hSt hTb hP hS rfl hl.1 rfl (Nat.le_of_ble_eq_true rfl) dX9_odds_27 ⟨Nat.le_refl 0, Nat.le_refl 0⟩ (fun rr_ M_13 H locs hq hP hS => ?_)
    obtain ⟨r_14, rfl, hw⟩ := hq
    exact W.iret hx hb hr (mw_end hP hSt hTb hS ⟨_, rfl, hw⟩) hS.2.2 dX9_odds_30
  refine lv_aload_n hx hb dX9_odds_0 rfl (lv_at hl 0 rfl) ?_
  refine lv_iload_n hx hb dX9_odds_1 rfl (lv_at hl 1 rfl) ?_
  refine mw_V (As := [.int a1]) (rest := []) (T := TX9) (N := 8) (n := 1) ⟨hx, hb, hml, hown, hts⟩ (so_X9_isSheep l G h a1 M _ hw) wm_RX9_131 wi_yX9_isSheep wv_yX9_isSheep wn_RX9 wc_yX9_isSheep (by decide) ⟨Nat.le_of_ble_eq_true rfl, Nat.le_of_ble_eq_true rfl⟩ ⟨rfl, rfl⟩ kh (by decide) (mk9 kh) rfl hSt hTb hP hS rfl hl.1 rfl (Nat.le_of_ble_eq_true rfl) dX9_odds_2 ⟨Nat.le_refl 0, Nat.le_refl 0⟩ (fun rr_ M_15 H locs hq hP hS => ?_)
  obtain ⟨r_16, rfl, hw⟩ := hq
  refine lv_if_eq (tgt := 25) hx hb dX9_odds_5 (by decide) (fun c_17 => ?_) (fun c_17 => ?_)
  · have hw := hw.1 c_17
    exact J_25 M_15 _ _ _ hw hP hS (lv_sub hl [0] rfl)
  · have hw := hw.2 c_17
    refine lv_iload_n hx hb dX9_odds_8 rfl (lv_at hl 2 rfl) ?_
    refine lv_bipush (v := 60) hx hb dX9_odds_9 (by decide) ?_
    refine mw_Sx (As := [.int a2, .int 60]) (rest := []) (n := 2) ⟨hx, hb, hml, hown, hts⟩ (so_X9_isWithin l G a2 60 M_15 _ hw) wm_RX9_55 wt_yX9_isWithin wn_RX9 wc_yX9_isWithin (by decide) ⟨Nat.le_of_ble_eq_true rfl, Nat.le_of_ble_eq_true rfl⟩ ⟨rfl, rfl⟩ hSt hTb hP hS rfl hl.1 rfl (Nat.le_of_ble_eq_true rfl) dX9_odds_11 ⟨Nat.le_refl 0, Nat.le_refl 0⟩ (fun rr_ M_18 H locs hq hP hS => ?_)
    obtain ⟨r_19, rfl, hw⟩ := hq
    refine lv_if_eq (tgt := 25) hx hb dX9_odds_14 (by decide) (fun c_20 => ?_) (fun c_20 => ?_)
    · have hw := hw.1 c_20
      exact J_25 M_18 _ _ _ hw hP hS (lv_sub hl [0] rfl)
    · have hw := hw.2 c_20
      refine lv_iload_n hx hb dX9_odds_17 rfl (lv_at hl 3 rfl) ?_
      refine lv_iconst (v := 1) hx hb dX9_odds_18 (by decide) ?_
      refine mw_Sx (As := [.int a3, .int 1]) (rest := []) (n := 2) ⟨hx, hb, hml, hown, hts⟩ (so_X9_isWithin l G a3 1 M_18 _ hw) wm_RX9_55 wt_yX9_isWithin wn_RX9 wc_yX9_isWithin (by decide) ⟨Nat.le_of_ble_eq_true rfl, Nat.le_of_ble_eq_true rfl⟩ ⟨rfl, rfl⟩ hSt hTb hP hS rfl hl.1 rfl (Nat.le_of_ble_eq_true rfl) dX9_odds_19 ⟨Nat.le_refl 0, Nat.le_refl 0⟩ (fun rr_ M_21 H locs hq hP hS => ?_)
      obtain ⟨r_22, rfl, hw⟩ := hq
      refine lv_if_ne (tgt := 31) hx hb dX9_odds_22 (by decide) (fun c_23 => ?_) (fun c_23 => ?_)
      · have hw := hw.1 c_23
        refine lv_iconst (v := 0) hx hb dX9_odds_31 (by decide) ?_
        refine lv_istore (lv' := [(4, .int 0), (0, .ref (G.1 + h)), (1, .int a1), (2, .int a2), (3, .int a3)]) hx hb dX9_odds_32 hl (by decide) rfl (fun ls hl => ?_)
        refine lv_iconst (v := 0) hx hb dX9_odds_34 (by decide) ?_
        refine lv_istore (lv' := [(5, .int 0), (4, .int 0), (0, .ref (G.1 + h)), (1, .int a1), (2, .int a2), (3, .int a3)]) hx hb dX9_odds_35 hl (by decide) rfl (fun ls hl => ?_)
        obtain ⟨n_, hw⟩ := hw
        exact L_37 a1 a2 a3 n_ 0 0 M_21 _ _ _ hw hP hS (lv_sub hl [2, 3, 4, 5, 1, 0] rfl)
      · have hw := hw.2 c_23
        exact J_25 M_21 _ _ _ hw hP hS (lv_sub hl [0] rfl)
def wp_X9_seed (h : Nat) (a1 : Int32) (M : Mem) (Q : Int32 → Mem → Prop) : Prop :=
  kdT h = 9 ∧ (∀ x_1, x_1 = M (h + 1) 3 → ∀ M_2, M_2 = mu M (h + 1) 3 a1 → Q x_1 M_2)
set_option maxHeartbeats 4000000 in
set_option maxRecDepth 100000 in
theorem so_X9_seed (l : Launch) (G : Gm) (h : Nat) (a1 : Int32) (M : Mem) (Q : Int32 → Mem → Prop) (hw : wp_X9_seed h a1 M Q) : Ct l G yX9_seed cX9_seed 3 (some .int) ({ frames := 0, cells := 0, slots := 0, locals := 0 } : Room) [.ref (G.1 + h), .int a1] M (Qi Q) := by
  unfold wp_X9_seed at hw
  obtain ⟨kh, hw⟩ := hw
  refine ct_of (by decide) (Nat.le_of_ble_eq_true rfl) ?_
  intro p e s m below meth c E_ ls H hl hP hS
  obtain ⟨hx, hb, hml, hown, hts, ht, hr, hlocks, hSt, hTb⟩ := E_
  have hl : lv_has ls 3 [(0, .ref (G.1 + h)), (1, .int a1)] := hl
  refine lv_aload_n hx hb dX9_seed_0 rfl (lv_at hl 0 rfl) ?_
  refine mw_get (ci := 9) (v := .ref (G.1 + (h + 1))) (C := RX9) (T := TX9) (N := 8) hx hb ht inX9 hown hSt hP kh (by decide) (mk9 kh) rfl 0 (by decide) (ht _ wf_RX9_10) rfl rfl dX9_seed_1 ?_
  refine mw_get (ci := 8) (v := .int (M (h + 1) 3)) (C := RX8) (T := TX8) (N := 4) hx hb ht inX8 hown hSt hP (ks9_0 kh) (by decide) (mk8 (ks9_0 kh)) rfl 3 (by decide) (ht _ wf_RX9_244) rfl rfl dX9_seed_4 ?_
  refine lv_topi (fun x_1 ex_1 => ?_)
  have hw := hw x_1 ex_1
  refine lv_istore_n (lv' := [(2, .int x_1), (0, .ref (G.1 + h)), (1, .int a1)]) hx hb dX9_seed_7 rfl hl (by decide) rfl (fun ls hl => ?_)
  refine lv_aload_n hx hb dX9_seed_8 rfl (lv_at hl 1 rfl) ?_
  refine mw_get (ci := 9) (v := .ref (G.1 + (h + 1))) (C := RX9) (T := TX9) (N := 8) hx hb ht inX9 hown hSt hP kh (by decide) (mk9 kh) rfl 0 (by decide) (ht _ wf_RX9_10) rfl rfl dX9_seed_9 ?_
  refine lv_iload_n hx hb dX9_seed_12 rfl (lv_at hl 2 rfl) ?_
  refine mw_put (ci := 8) (v := a1) (ty := .int) (C := RX8) (T := TX8) (N := 4) hx hb ht inX8 tyX8 tyX8_ok nmX8 hown hSt hP hS (ks9_0 kh) (by decide) (mk8 (ks9_0 kh)) rfl 3 (by decide) (ht _ wf_RX9_244) rfl rfl (by decide +kernel) (vp_nar_int _) rfl (Nat.le_of_ble_eq_true rfl) (by rw [mk8 (ks9_0 kh)]; simp [mu]) dX9_seed_13 (fun M_2 H locs eM_2 hP hS => ?_)
  have hw := hw M_2 eM_2
  refine lv_iload_n hx hb dX9_seed_16 rfl (lv_at hl 0 rfl) ?_
  exact W.iret hx hb hr (mw_end hP hSt hTb hS ⟨_, rfl, hw⟩) hS.2.2 dX9_seed_17
def b_X9_voice_16 (h : Nat) (Q : Int32 → Mem → Prop) (M : Mem) : Prop :=
  wp_X9_refuse h 1 M (fun r_2 M_1 => Q r_2 M_1)
def wp_X9_voice (h : Nat) (a1 : Int32) (a2 : Int32) (a3 : Int32) (M : Mem) (Q : Int32 → Mem → Prop) : Prop :=
  kdT h = 9 ∧ (wp_X9_isSheep h a1 M (fun r_4 M_3 => (r_4 = 0 → b_X9_voice_16 h Q M_3) ∧ (¬ r_4 = 0 → wp_X9_isWithin a2 3 M_3 (fun r_7 M_6 => (¬ r_7 = 0 → vp_in a1 7 ∧ (∀ q_10, q_10 = h + 1 + 1 + 13 + 9 + a1.toNatClampNeg → wp_X7_raise (h + 103) (M_6 q_10 0) a1 (M_6 q_10 1) a2 a3 M_6 (fun r_12 M_11 => Q r_12 M_11))) ∧ (r_7 = 0 → b_X9_voice_16 h Q M_6)))))
set_option maxHeartbeats 4000000 in
set_option maxRecDepth 100000 in
theorem so_X9_voice (l : Launch) (G : Gm) (h : Nat) (a1 : Int32) (a2 : Int32) (a3 : Int32) (M : Mem) (Q : Int32 → Mem → Prop) (hw : wp_X9_voice h a1 a2 a3 M Q) : Ct l G yX9_voice cX9_voice 5 (some .int) ({ frames := 64, cells := 0, slots := 0, locals := 1594 } : Room) [.ref (G.1 + h), .int a1, .int a2, .int a3] M (Qi Q) := by
  unfold wp_X9_voice at hw
  obtain ⟨kh, hw⟩ := hw
  refine ct_of (by decide) (Nat.le_of_ble_eq_true rfl) ?_
  intro p e s m below meth c E_ ls H hl hP hS
  obtain ⟨hx, hb, hml, hown, hts, ht, hr, hlocks, hSt, hTb⟩ := E_
  have hl : lv_has ls 5 [(0, .ref (G.1 + h)), (1, .int a1), (2, .int a2), (3, .int a3)] := hl
  have J_16 : ∀  (M : Mem) (H : Heap) (locs : List Loc) (ls : Array Slot), b_X9_voice_16 h Q M → va_P G.2.1 clsA (wl G M) H → va_S (inW G) s.heap H locs → lv_has ls 5 [(0, .ref (G.1 + h))] → W p l e ({ frames := 64, cells := 0, slots := 0, locals := 1594 } : Room) s m ([.ref (G.1 + h), .int a1, .int a2, .int a3] : List Value).toArray below meth c H locs 0 0 (MQ below (Pq G (Qi Q)) ([.ref (G.1 + h), .int a1, .int a2, .int a3] : List Value).toArray s 0 0 (inW G)) (F0 m 16 ls []) := by
    intro  M H locs ls  hw hP hS hl
    unfold b_X9_voice_16 at hw
    refine lv_aload_n hx hb dX9_voice_16 rfl (lv_at hl 0 rfl) ?_
    refine lv_iconst (v := 1) hx hb dX9_voice_17 (by decide) ?_
    refine mw_V (As := [.int 1]) (rest := []) (T := TX9) (N := 8) (n := 1) ⟨hx, hb, hml, hown, hts⟩ (so_X9_refuse l G h 1 M _ hw) wm_RX9_59 wi_yX9_refuse wv_yX9_refuse wn_RX9 wc_yX9_refuse (by decide) ⟨Nat.le_of_ble_eq_true rfl, Nat.le_of_ble_eq_true rfl⟩ ⟨rfl, rfl⟩ kh (by decide) (mk9 kh) rfl hSt hTb hP hS rfl hl.1 rfl (Nat.le_of_ble_eq_true rfl) dX9_voice_18 ⟨Nat.le_refl 0, Nat.le_refl 0⟩ (fun rr_ M_1 H locs hq hP hS => ?_)
    obtain ⟨r_2, rfl, hw⟩ := hq
    exact W.iret hx hb hr (mw_end hP hSt hTb hS ⟨_, rfl, hw⟩) hS.2.2 dX9_voice_21
  refine lv_aload_n hx hb dX9_voice_0 rfl (lv_at hl 0 rfl) ?_
  refine lv_iload_n hx hb dX9_voice_1 rfl (lv_at hl 1 rfl) ?_
  refine mw_V (As := [.int a1]) (rest := []) (T := TX9) (N := 8) (n := 1) ⟨hx, hb, hml, hown, hts⟩ (so_X9_isSheep l G h a1 M _ hw) wm_RX9_131 wi_yX9_isSheep wv_yX9_isSheep wn_RX9 wc_yX9_isSheep (by decide) ⟨Nat.le_of_ble_eq_true rfl, Nat.le_of_ble_eq_true rfl⟩ ⟨rfl, rfl⟩ kh (by decide) (mk9 kh) rfl hSt hTb hP hS rfl hl.1 rfl (Nat.le_of_ble_eq_true rfl) dX9_voice_2 ⟨Nat.le_refl 0, Nat.le_refl 0⟩ (fun rr_ M_3 H locs hq hP hS => ?_)
  obtain ⟨r_4, rfl, hw⟩ := hq
  refine lv_if_eq (tgt := 16) hx hb dX9_voice_5 (by decide) (fun c_5 => ?_) (fun c_5 => ?_)
  · have hw := hw.1 c_5
    exact J_16 M_3 _ _ _ hw hP hS (lv_sub hl [0] rfl)
  · have hw := hw.2 c_5
    refine lv_iload_n hx hb dX9_voice_8 rfl (lv_at hl 2 rfl) ?_
    refine lv_iconst (v := 3) hx hb dX9_voice_9 (by decide) ?_
    refine mw_Sx (As := [.int a2, .int 3]) (rest := []) (n := 2) ⟨hx, hb, hml, hown, hts⟩ (so_X9_isWithin l G a2 3 M_3 _ hw) wm_RX9_55 wt_yX9_isWithin wn_RX9 wc_yX9_isWithin (by decide) ⟨Nat.le_of_ble_eq_true rfl, Nat.le_of_ble_eq_true rfl⟩ ⟨rfl, rfl⟩ hSt hTb hP hS rfl hl.1 rfl (Nat.le_of_ble_eq_true rfl) dX9_voice_10 ⟨Nat.le_refl 0, Nat.le_refl 0⟩ (fun rr_ M_6 H locs hq hP hS => ?_)
    obtain ⟨r_7, rfl, hw⟩ := hq
    refine lv_if_ne (tgt := 22) hx hb dX9_voice_13 (by decide) (fun c_8 => ?_) (fun c_8 => ?_)
    · have hw := hw.1 c_8
      refine lv_aload_n hx hb dX9_voice_22 rfl (lv_at hl 0 rfl) ?_
      refine mw_get (ci := 9) (v := .ref (G.1 + (h + 1))) (C := RX9) (T := TX9) (N := 8) hx hb ht inX9 hown hSt hP kh (by decide) (mk9 kh) rfl 0 (by decide) (ht _ wf_RX9_10) rfl rfl dX9_voice_23 ?_
      refine mw_get (ci := 8) (v := .ref (G.1 + (h + 1 + 1))) (C := RX8) (T := TX8) (N := 4) hx hb ht inX8 hown hSt hP (ks9_0 kh) (by decide) (mk8 (ks9_0 kh)) rfl 0 (by decide) (ht _ wf_RX9_63) rfl rfl dX9_voice_26 ?_
      refine mw_get (ci := 1) (v := .ref (G.1 + (h + 1 + 1 + 13))) (C := RX1) (T := TX1) (N := 9) hx hb ht inX1 hown hSt hP (ks8_0 (ks9_0 kh)) (by decide) (mk1 (ks8_0 (ks9_0 kh))) rfl 4 (by decide) (ht _ wf_RX9_106) rfl rfl dX9_voice_29 ?_
      refine lv_iload_n hx hb dX9_voice_32 rfl (lv_at hl 1 rfl) ?_
      obtain ⟨c_9, hw⟩ := hw
      refine mw_aald13 hx hb hSt hP (ks1_4 (ks8_0 (ks9_0 kh))) (by rw [(ln1_4 (ks8_0 (ks9_0 kh)))]; exact c_9) dX9_voice_33 ?_
      obtain ⟨q_10, eq_10⟩ : ∃ z, z = h + 1 + 1 + 13 + 9 + a1.toNatClampNeg := ⟨_, rfl⟩
      have hw := hw q_10 eq_10
      have kq_10 : kdT q_10 = 5 := by rw [eq_10]; exact (ke13 (ks1_4 (ks8_0 (ks9_0 kh))) (vp_lt (by rw [(ln1_4 (ks8_0 (ks9_0 kh)))]; exact c_9)))
      rw [← eq_10]
      refine lv_astore (lv' := [(4, .ref (G.1 + q_10)), (0, .ref (G.1 + h)), (1, .int a1), (2, .int a2), (3, .int a3)]) hx hb dX9_voice_34 hl (by decide) rfl (fun ls hl => ?_)
      refine lv_aload_n hx hb dX9_voice_36 rfl (lv_at hl 1 rfl) ?_
      refine mw_get (ci := 9) (v := .ref (G.1 + (h + 103))) (C := RX9) (T := TX9) (N := 8) hx hb ht inX9 hown hSt hP kh (by decide) (mk9 kh) rfl 4 (by decide) (ht _ wf_RX9_36) rfl rfl dX9_voice_37 ?_
      refine lv_aload hx hb dX9_voice_40 (lv_at hl 0 rfl) ?_
      refine mw_get (ci := 5) (v := .int (M_6 q_10 0)) (C := RX5) (T := TX5) (N := 6) hx hb ht inX5 hown hSt hP kq_10 (by decide) (mk5 kq_10) rfl 0 (by decide) (ht _ wf_RX9_110) rfl rfl dX9_voice_42 ?_
      refine lv_iload_n hx hb dX9_voice_45 rfl (lv_at hl 2 rfl) ?_
      refine lv_aload hx hb dX9_voice_46 (lv_at hl 0 rfl) ?_
      refine mw_get (ci := 5) (v := .int (M_6 q_10 1)) (C := RX5) (T := TX5) (N := 6) hx hb ht inX5 hown hSt hP kq_10 (by decide) (mk5 kq_10) rfl 1 (by decide) (ht _ wf_RX9_115) rfl rfl dX9_voice_48 ?_
      refine lv_iload_n hx hb dX9_voice_51 rfl (lv_at hl 3 rfl) ?_
      refine lv_iload_n hx hb dX9_voice_52 rfl (lv_at hl 4 rfl) ?_
      refine mw_V (As := [.int (M_6 q_10 0), .int a1, .int (M_6 q_10 1), .int a2, .int a3]) (rest := []) (T := TX7) (N := 4) (n := 5) ⟨hx, hb, hml, hown, hts⟩ (so_X7_raise l G (h + 103) (M_6 q_10 0) a1 (M_6 q_10 1) a2 a3 M_6 _ hw) wm_RX9_247 wi_yX7_raise wv_yX7_raise wn_RX7 wc_yX7_raise (by decide) ⟨Nat.le_of_ble_eq_true rfl, Nat.le_of_ble_eq_true rfl⟩ ⟨rfl, rfl⟩ (ks9_4 kh) (by decide) (mk7 (ks9_4 kh)) rfl hSt hTb hP hS rfl hl.1 rfl (Nat.le_of_ble_eq_true rfl) dX9_voice_53 ⟨Nat.le_refl 0, Nat.le_refl 0⟩ (fun rr_ M_11 H locs hq hP hS => ?_)
      obtain ⟨r_12, rfl, hw⟩ := hq
      exact W.iret hx hb hr (mw_end hP hSt hTb hS ⟨_, rfl, hw⟩) hS.2.2 dX9_voice_56
    · have hw := hw.2 c_8
      exact J_16 M_6 _ _ _ hw hP hS (lv_sub hl [0] rfl)
def wp_X9_trace (h : Nat) (a1 : Int32) (M : Mem) (Q : Int32 → Mem → Prop) : Prop :=
  kdT h = 9 ∧ (wp_X3_holds (h + 103 + 1) a1 M (fun r_2 M_1 => (r_2 = 0 → wp_X9_refuse h 2 M_1 (fun r_5 M_4 => Q r_5 M_4)) ∧ (¬ r_2 = 0 → wp_X3_get (h + 103 + 1) a1 M_1 (fun r_7 M_6 => Q r_7 M_6))))
set_option maxHeartbeats 4000000 in
set_option maxRecDepth 100000 in
theorem so_X9_trace (l : Launch) (G : Gm) (h : Nat) (a1 : Int32) (M : Mem) (Q : Int32 → Mem → Prop) (hw : wp_X9_trace h a1 M Q) : Ct l G yX9_trace cX9_trace 2 (some .int) ({ frames := 1, cells := 0, slots := 0, locals := 21 } : Room) [.ref (G.1 + h), .int a1] M (Qi Q) := by
  unfold wp_X9_trace at hw
  obtain ⟨kh, hw⟩ := hw
  refine ct_of (by decide) (Nat.le_of_ble_eq_true rfl) ?_
  intro p e s m below meth c E_ ls H hl hP hS
  obtain ⟨hx, hb, hml, hown, hts, ht, hr, hlocks, hSt, hTb⟩ := E_
  have hl : lv_has ls 2 [(0, .ref (G.1 + h)), (1, .int a1)] := hl
  refine lv_aload_n hx hb dX9_trace_0 rfl (lv_at hl 0 rfl) ?_
  refine mw_get (ci := 9) (v := .ref (G.1 + (h + 103))) (C := RX9) (T := TX9) (N := 8) hx hb ht inX9 hown hSt hP kh (by decide) (mk9 kh) rfl 4 (by decide) (ht _ wf_RX9_36) rfl rfl dX9_trace_1 ?_
  refine mw_get (ci := 7) (v := .ref (G.1 + (h + 103 + 1))) (C := RX7) (T := TX7) (N := 4) hx hb ht inX7 hown hSt hP (ks9_4 kh) (by decide) (mk7 (ks9_4 kh)) rfl 0 (by decide) (ht _ wf_RX9_251) rfl rfl dX9_trace_4 ?_
  refine lv_iload_n hx hb dX9_trace_7 rfl (lv_at hl 1 rfl) ?_
  refine mw_V (As := [.int a1]) (rest := []) (T := TX3) (N := 2) (n := 1) ⟨hx, hb, hml, hown, hts⟩ (so_X3_holds l G (h + 103 + 1) a1 M _ hw) wm_RX9_254 wi_yX3_holds wv_yX3_holds wn_RX3 wc_yX3_holds (by decide) ⟨Nat.le_of_ble_eq_true rfl, Nat.le_of_ble_eq_true rfl⟩ ⟨rfl, rfl⟩ (ks7_0 (ks9_4 kh)) (by decide) (mk3 (ks7_0 (ks9_4 kh))) rfl hSt hTb hP hS rfl hl.1 rfl (Nat.le_of_ble_eq_true rfl) dX9_trace_8 ⟨Nat.le_refl 0, Nat.le_refl 0⟩ (fun rr_ M_1 H locs hq hP hS => ?_)
  obtain ⟨r_2, rfl, hw⟩ := hq
  refine lv_if_eq (tgt := 28) hx hb dX9_trace_11 (by decide) (fun c_3 => ?_) (fun c_3 => ?_)
  · have hw := hw.1 c_3
    refine lv_aload_n hx hb dX9_trace_28 rfl (lv_at hl 0 rfl) ?_
    refine lv_iconst (v := 2) hx hb dX9_trace_29 (by decide) ?_
    refine mw_V (As := [.int 2]) (rest := []) (T := TX9) (N := 8) (n := 1) ⟨hx, hb, hml, hown, hts⟩ (so_X9_refuse l G h 2 M_1 _ hw) wm_RX9_59 wi_yX9_refuse wv_yX9_refuse wn_RX9 wc_yX9_refuse (by decide) ⟨Nat.le_of_ble_eq_true rfl, Nat.le_of_ble_eq_true rfl⟩ ⟨rfl, rfl⟩ kh (by decide) (mk9 kh) rfl hSt hTb hP hS rfl hl.1 rfl (Nat.le_of_ble_eq_true rfl) dX9_trace_30 ⟨Nat.le_refl 0, Nat.le_refl 0⟩ (fun rr_ M_4 H locs hq hP hS => ?_)
    obtain ⟨r_5, rfl, hw⟩ := hq
    exact W.iret hx hb hr (mw_end hP hSt hTb hS ⟨_, rfl, hw⟩) hS.2.2 dX9_trace_33
  · have hw := hw.2 c_3
    refine lv_aload_n hx hb dX9_trace_14 rfl (lv_at hl 0 rfl) ?_
    refine mw_get (ci := 9) (v := .ref (G.1 + (h + 103))) (C := RX9) (T := TX9) (N := 8) hx hb ht inX9 hown hSt hP kh (by decide) (mk9 kh) rfl 4 (by decide) (ht _ wf_RX9_36) rfl rfl dX9_trace_15 ?_
    refine mw_get (ci := 7) (v := .ref (G.1 + (h + 103 + 1))) (C := RX7) (T := TX7) (N := 4) hx hb ht inX7 hown hSt hP (ks9_4 kh) (by decide) (mk7 (ks9_4 kh)) rfl 0 (by decide) (ht _ wf_RX9_251) rfl rfl dX9_trace_18 ?_
    refine lv_iload_n hx hb dX9_trace_21 rfl (lv_at hl 1 rfl) ?_
    refine mw_V (As := [.int a1]) (rest := []) (T := TX3) (N := 2) (n := 1) ⟨hx, hb, hml, hown, hts⟩ (so_X3_get l G (h + 103 + 1) a1 M_1 _ hw) wm_RX9_238 wi_yX3_get wv_yX3_get wn_RX3 wc_yX3_get (by decide) ⟨Nat.le_of_ble_eq_true rfl, Nat.le_of_ble_eq_true rfl⟩ ⟨rfl, rfl⟩ (ks7_0 (ks9_4 kh)) (by decide) (mk3 (ks7_0 (ks9_4 kh))) rfl hSt hTb hP hS rfl hl.1 rfl (Nat.le_of_ble_eq_true rfl) dX9_trace_22 ⟨Nat.le_refl 0, Nat.le_refl 0⟩ (fun rr_ M_6 H locs hq hP hS => ?_)
    obtain ⟨r_7, rfl, hw⟩ := hq
    refine lv_goto (tgt := 33) hx hb dX9_trace_25 (by decide) ?_
    exact W.iret hx hb hr (mw_end hP hSt hTb hS ⟨_, rfl, hw⟩) hS.2.2 dX9_trace_33
def b_X9_sheet_35 (h : Nat) (Q : Int32 → Mem → Prop) (v1 : Int32) (v2 : Int32) (v3 : Int32) (M : Mem) : Prop :=
  (¬ v2 = 0 → (0 ≤ v3 → (v3 ≤ 40 → vp_in v1 4 ∧ (wp_X6_begin (h + 106 + 2 + 3 * v1.toNatClampNeg) v2 v3 M (fun M_5 => Q 1 M_5))) ∧ (¬ v3 ≤ 40 → wp_X9_refuse h 1 M (fun r_7 M_6 => Q r_7 M_6))) ∧ (¬ 0 ≤ v3 → wp_X9_refuse h 3 M (fun r_9 M_8 => Q r_9 M_8))) ∧ (v2 = 0 → vp_in v1 4 ∧ (wp_X6_begin (h + 106 + 2 + 3 * v1.toNatClampNeg) 0 0 M (fun M_11 => Q 1 M_11)))
def b_X9_sheet_29 (h : Nat) (Q : Int32 → Mem → Prop) (M : Mem) : Prop :=
  wp_X9_refuse h 1 M (fun r_13 M_12 => Q r_13 M_12)
def wp_X9_sheet (h : Nat) (a1 : Int32) (a2 : Int32) (a3 : Int32) (M : Mem) (Q : Int32 → Mem → Prop) : Prop :=
  kdT h = 9 ∧ (wp_X9_isSheet a1 M (fun r_15 M_14 => (r_15 = 0 → b_X9_sheet_29 h Q M_14) ∧ (¬ r_15 = 0 → (a2 = 0 → b_X9_sheet_35 h Q a1 a2 a3 M_14) ∧ (¬ a2 = 0 → (a2 = 8 → b_X9_sheet_35 h Q a1 a2 a3 M_14) ∧ (¬ a2 = 8 → (a2 = 16 → b_X9_sheet_35 h Q a1 a2 a3 M_14) ∧ (¬ a2 = 16 → (a2 = 32 → b_X9_sheet_35 h Q a1 a2 a3 M_14) ∧ (¬ a2 = 32 → b_X9_sheet_29 h Q M_14)))))))
set_option maxHeartbeats 4000000 in
set_option maxRecDepth 100000 in
theorem so_X9_sheet (l : Launch) (G : Gm) (h : Nat) (a1 : Int32) (a2 : Int32) (a3 : Int32) (M : Mem) (Q : Int32 → Mem → Prop) (hw : wp_X9_sheet h a1 a2 a3 M Q) : Ct l G yX9_sheet cX9_sheet 4 (some .int) ({ frames := 3, cells := 0, slots := 0, locals := 104 } : Room) [.ref (G.1 + h), .int a1, .int a2, .int a3] M (Qi Q) := by
  unfold wp_X9_sheet at hw
  obtain ⟨kh, hw⟩ := hw
  refine ct_of (by decide) (Nat.le_of_ble_eq_true rfl) ?_
  intro p e s m below meth c E_ ls H hl hP hS
  obtain ⟨hx, hb, hml, hown, hts, ht, hr, hlocks, hSt, hTb⟩ := E_
  have hl : lv_has ls 4 [(0, .ref (G.1 + h)), (1, .int a1), (2, .int a2), (3, .int a3)] := hl
  have J_35 : ∀ (v1 : Int32) (v2 : Int32) (v3 : Int32) (M : Mem) (H : Heap) (locs : List Loc) (ls : Array Slot), b_X9_sheet_35 h Q v1 v2 v3 M → va_P G.2.1 clsA (wl G M) H → va_S (inW G) s.heap H locs → lv_has ls 4 [(0, .ref (G.1 + h)), (1, .int v1), (2, .int v2), (3, .int v3)] → W p l e ({ frames := 3, cells := 0, slots := 0, locals := 104 } : Room) s m ([.ref (G.1 + h), .int a1, .int a2, .int a3] : List Value).toArray below meth c H locs 0 0 (MQ below (Pq G (Qi Q)) ([.ref (G.1 + h), .int a1, .int a2, .int a3] : List Value).toArray s 0 0 (inW G)) (F0 m 35 ls []) := by
    intro v1 v2 v3 M H locs ls  hw hP hS hl
    unfold b_X9_sheet_35 at hw
    refine lv_iload_n hx hb dX9_sheet_35 rfl (lv_at hl 2 rfl) ?_
    refine lv_if_ne (tgt := 52) hx hb dX9_sheet_36 (by decide) (fun c_1 => ?_) (fun c_1 => ?_)
    · have hw := hw.1 c_1
      refine lv_iload_n hx hb dX9_sheet_52 rfl (lv_at hl 3 rfl) ?_
      refine lv_if_ge (tgt := 62) hx hb dX9_sheet_53 (by decide) (fun c_2 => ?_) (fun c_2 => ?_)
      · have hw := hw.1 c_2
        refine lv_iload_n hx hb dX9_sheet_62 rfl (lv_at hl 3 rfl) ?_
        refine lv_bipush (v := 40) hx hb dX9_sheet_63 (by decide) ?_
        refine lv_icmp_le (tgt := 74) hx hb dX9_sheet_65 (by decide) (fun c_3 => ?_) (fun c_3 => ?_)
        · have hw := hw.1 c_3
          refine lv_aload_n hx hb dX9_sheet_74 rfl (lv_at hl 0 rfl) ?_
          refine mw_get (ci := 9) (v := .ref (G.1 + (h + 106))) (C := RX9) (T := TX9) (N := 8) hx hb ht inX9 hown hSt hP kh (by decide) (mk9 kh) rfl 5 (by decide) (ht _ wf_RX9_42) rfl rfl dX9_sheet_75 ?_
          refine lv_iload_n hx hb dX9_sheet_78 rfl (lv_at hl 1 rfl) ?_
          obtain ⟨c_4, hw⟩ := hw
          refine mw_aald14 hx hb hSt hP (ks9_5 kh) (by rw [(ln9_5 kh)]; exact c_4) dX9_sheet_79 ?_
          refine lv_iload_n hx hb dX9_sheet_80 rfl (lv_at hl 2 rfl) ?_
          refine lv_iload_n hx hb dX9_sheet_81 rfl (lv_at hl 3 rfl) ?_
          refine mw_V (As := [.int v2, .int v3]) (rest := []) (T := TX6) (N := 2) (n := 2) ⟨hx, hb, hml, hown, hts⟩ (so_X6_begin l G (h + 106 + 2 + 3 * v1.toNatClampNeg) v2 v3 M _ hw) wm_RX9_257 wi_yX6_begin wv_yX6_begin wn_RX6 wc_yX6_begin (by decide) ⟨Nat.le_of_ble_eq_true rfl, Nat.le_of_ble_eq_true rfl⟩ ⟨rfl, rfl⟩ (ke14 (ks9_5 kh) (vp_lt (by rw [(ln9_5 kh)]; exact c_4))) (by decide) (mk6 (ke14 (ks9_5 kh) (vp_lt (by rw [(ln9_5 kh)]; exact c_4)))) rfl hSt hTb hP hS rfl hl.1 rfl (Nat.le_of_ble_eq_true rfl) dX9_sheet_82 ⟨Nat.le_refl 0, Nat.le_refl 0⟩ (fun rr_ M_5 H locs hq hP hS => ?_)
          obtain ⟨rfl, hw⟩ := hq
          refine lv_iconst (v := 1) hx hb dX9_sheet_85 (by decide) ?_
          exact W.iret hx hb hr (mw_end hP hSt hTb hS ⟨_, rfl, hw⟩) hS.2.2 dX9_sheet_86
        · have hw := hw.2 c_3
          refine lv_aload_n hx hb dX9_sheet_68 rfl (lv_at hl 0 rfl) ?_
          refine lv_iconst (v := 1) hx hb dX9_sheet_69 (by decide) ?_
          refine mw_V (As := [.int 1]) (rest := []) (T := TX9) (N := 8) (n := 1) ⟨hx, hb, hml, hown, hts⟩ (so_X9_refuse l G h 1 M _ hw) wm_RX9_59 wi_yX9_refuse wv_yX9_refuse wn_RX9 wc_yX9_refuse (by decide) ⟨Nat.le_of_ble_eq_true rfl, Nat.le_of_ble_eq_true rfl⟩ ⟨rfl, rfl⟩ kh (by decide) (mk9 kh) rfl hSt hTb hP hS rfl hl.1 rfl (Nat.le_of_ble_eq_true rfl) dX9_sheet_70 ⟨Nat.le_refl 0, Nat.le_refl 0⟩ (fun rr_ M_6 H locs hq hP hS => ?_)
          obtain ⟨r_7, rfl, hw⟩ := hq
          exact W.iret hx hb hr (mw_end hP hSt hTb hS ⟨_, rfl, hw⟩) hS.2.2 dX9_sheet_73
      · have hw := hw.2 c_2
        refine lv_aload_n hx hb dX9_sheet_56 rfl (lv_at hl 0 rfl) ?_
        refine lv_iconst (v := 3) hx hb dX9_sheet_57 (by decide) ?_
        refine mw_V (As := [.int 3]) (rest := []) (T := TX9) (N := 8) (n := 1) ⟨hx, hb, hml, hown, hts⟩ (so_X9_refuse l G h 3 M _ hw) wm_RX9_59 wi_yX9_refuse wv_yX9_refuse wn_RX9 wc_yX9_refuse (by decide) ⟨Nat.le_of_ble_eq_true rfl, Nat.le_of_ble_eq_true rfl⟩ ⟨rfl, rfl⟩ kh (by decide) (mk9 kh) rfl hSt hTb hP hS rfl hl.1 rfl (Nat.le_of_ble_eq_true rfl) dX9_sheet_58 ⟨Nat.le_refl 0, Nat.le_refl 0⟩ (fun rr_ M_8 H locs hq hP hS => ?_)
        obtain ⟨r_9, rfl, hw⟩ := hq
        exact W.iret hx hb hr (mw_end hP hSt hTb hS ⟨_, rfl, hw⟩) hS.2.2 dX9_sheet_61
    · have hw := hw.2 c_1
      refine lv_aload_n hx hb dX9_sheet_39 rfl (lv_at hl 0 rfl) ?_
      refine mw_get (ci := 9) (v := .ref (G.1 + (h + 106))) (C := RX9) (T := TX9) (N := 8) hx hb ht inX9 hown hSt hP kh (by decide) (mk9 kh) rfl 5 (by decide) (ht _ wf_RX9_42) rfl rfl dX9_sheet_40 ?_
      refine lv_iload_n hx hb dX9_sheet_43 rfl (lv_at hl 1 rfl) ?_
      obtain ⟨c_10, hw⟩ := hw
      refine mw_aald14 hx hb hSt hP (ks9_5 kh) (by rw [(ln9_5 kh)]; exact c_10) dX9_sheet_44 ?_
      refine lv_iconst (v := 0) hx hb dX9_sheet_45 (by decide) ?_
      refine lv_iconst (v := 0) hx hb dX9_sheet_46 (by decide) ?_
      refine mw_V (As := [.int 0, .int 0]) (rest := []) (T := TX6) (N := 2) (n := 2) ⟨hx, hb, hml, hown, hts⟩ (so_X6_begin l G (h + 106 + 2 + 3 * v1.toNatClampNeg) 0 0 M _ hw) wm_RX9_257 wi_yX6_begin wv_yX6_begin wn_RX6 wc_yX6_begin (by decide) ⟨Nat.le_of_ble_eq_true rfl, Nat.le_of_ble_eq_true rfl⟩ ⟨rfl, rfl⟩ (ke14 (ks9_5 kh) (vp_lt (by rw [(ln9_5 kh)]; exact c_10))) (by decide) (mk6 (ke14 (ks9_5 kh) (vp_lt (by rw [(ln9_5 kh)]; exact c_10)))) rfl hSt hTb hP hS rfl hl.1 rfl (Nat.le_of_ble_eq_true rfl) dX9_sheet_47 ⟨Nat.le_refl 0, Nat.le_refl 0⟩ (fun rr_ M_11 H locs hq hP hS => ?_)
      obtain ⟨rfl, hw⟩ := hq
      refine lv_iconst (v := 1) hx hb dX9_sheet_50 (by decide) ?_
      exact W.iret hx hb hr (mw_end hP hSt hTb hS ⟨_, rfl, hw⟩) hS.2.2 dX9_sheet_51
  have J_29 : ∀  (M : Mem) (H : Heap) (locs : List Loc) (ls : Array Slot), b_X9_sheet_29 h Q M → va_P G.2.1 clsA (wl G M) H → va_S (inW G) s.heap H locs → lv_has ls 4 [(0, .ref (G.1 + h))] → W p l e ({ frames := 3, cells := 0, slots := 0, locals := 104 } : Room) s m ([.ref (G.1 + h), .int a1, .int a2, .int a3] : List Value).toArray below meth c H locs 0 0 (MQ below (Pq G (Qi Q)) ([.ref (G.1 + h), .int a1, .int a2, .int a3] : List Value).toArray s 0 0 (inW G)) (F0 m 29 ls []) := by
    intro  M H locs ls  hw hP hS hl
    unfold b_X9_sheet_29 at hw
    refine lv_aload_n hx hb dX9_sheet_29 rfl (lv_at hl 0 rfl) ?_
    refine lv_iconst (v := 1) hx hb dX9_sheet_30 (by decide) ?_
    refine mw_V (As := [.int 1]) (rest := []) (T := TX9) (N := 8) (n := 1) ⟨hx, hb, hml, hown, hts⟩ (so_X9_refuse l G h 1 M _ hw) wm_RX9_59 wi_yX9_refuse wv_yX9_refuse wn_RX9 wc_yX9_refuse (by decide) ⟨Nat.le_of_ble_eq_true rfl, Nat.le_of_ble_eq_true rfl⟩ ⟨rfl, rfl⟩ kh (by decide) (mk9 kh) rfl hSt hTb hP hS rfl hl.1 rfl (Nat.le_of_ble_eq_true rfl) dX9_sheet_31 ⟨Nat.le_refl 0, Nat.le_refl 0⟩ (fun rr_ M_12 H locs hq hP hS => ?_)
    obtain ⟨r_13, rfl, hw⟩ := hq
    exact W.iret hx hb hr (mw_end hP hSt hTb hS ⟨_, rfl, hw⟩) hS.2.2 dX9_sheet_34
  refine lv_iload_n hx hb dX9_sheet_0 rfl (lv_at hl 1 rfl) ?_
  refine mw_Sx (As := [.int a1]) (rest := []) (n := 1) ⟨hx, hb, hml, hown, hts⟩ (so_X9_isSheet l G a1 M _ hw) wm_RX9_221 wt_yX9_isSheet wn_RX9 wc_yX9_isSheet (by decide) ⟨Nat.le_of_ble_eq_true rfl, Nat.le_of_ble_eq_true rfl⟩ ⟨rfl, rfl⟩ hSt hTb hP hS rfl hl.1 rfl (Nat.le_of_ble_eq_true rfl) dX9_sheet_1 ⟨Nat.le_refl 0, Nat.le_refl 0⟩ (fun rr_ M_14 H locs hq hP hS => ?_)
  obtain ⟨r_15, rfl, hw⟩ := hq
  refine lv_if_eq (tgt := 29) hx hb dX9_sheet_4 (by decide) (fun c_16 => ?_) (fun c_16 => ?_)
  · have hw := hw.1 c_16
    exact J_29 M_14 _ _ _ hw hP hS (lv_sub hl [0] rfl)
  · have hw := hw.2 c_16
    refine lv_iload_n hx hb dX9_sheet_7 rfl (lv_at hl 2 rfl) ?_
    refine lv_if_eq (tgt := 35) hx hb dX9_sheet_8 (by decide) (fun c_17 => ?_) (fun c_17 => ?_)
    · have hw := hw.1 c_17
      exact J_35 a1 a2 a3 M_14 _ _ _ hw hP hS (lv_sub hl [0, 1, 2, 3] rfl)
    · have hw := hw.2 c_17
      refine lv_iload_n hx hb dX9_sheet_11 rfl (lv_at hl 2 rfl) ?_
      refine lv_bipush (v := 8) hx hb dX9_sheet_12 (by decide) ?_
      refine lv_icmp_eq (tgt := 35) hx hb dX9_sheet_14 (by decide) (fun c_18 => ?_) (fun c_18 => ?_)
      · have hw := hw.1 c_18
        exact J_35 a1 a2 a3 M_14 _ _ _ hw hP hS (lv_sub hl [0, 1, 2, 3] rfl)
      · have hw := hw.2 c_18
        refine lv_iload_n hx hb dX9_sheet_17 rfl (lv_at hl 2 rfl) ?_
        refine lv_bipush (v := 16) hx hb dX9_sheet_18 (by decide) ?_
        refine lv_icmp_eq (tgt := 35) hx hb dX9_sheet_20 (by decide) (fun c_19 => ?_) (fun c_19 => ?_)
        · have hw := hw.1 c_19
          exact J_35 a1 a2 a3 M_14 _ _ _ hw hP hS (lv_sub hl [0, 1, 2, 3] rfl)
        · have hw := hw.2 c_19
          refine lv_iload_n hx hb dX9_sheet_23 rfl (lv_at hl 2 rfl) ?_
          refine lv_bipush (v := 32) hx hb dX9_sheet_24 (by decide) ?_
          refine lv_icmp_eq (tgt := 35) hx hb dX9_sheet_26 (by decide) (fun c_20 => ?_) (fun c_20 => ?_)
          · have hw := hw.1 c_20
            exact J_35 a1 a2 a3 M_14 _ _ _ hw hP hS (lv_sub hl [0, 1, 2, 3] rfl)
          · have hw := hw.2 c_20
            exact J_29 M_14 _ _ _ hw hP hS (lv_sub hl [0] rfl)
def wp_X9_put (h : Nat) (a1 : Int32) (a2 : Int32) (a3 : Int32) (M : Mem) (Q : Int32 → Mem → Prop) : Prop :=
  kdT h = 9 ∧ (wp_X9_isSheet a1 M (fun r_2 M_1 => (¬ r_2 = 0 → vp_in a1 4 ∧ (∀ q_5, q_5 = h + 106 + 2 + 3 * a1.toNatClampNeg → wp_X6_isMissing q_5 M_1 (fun r_7 M_6 => (r_7 = 0 → wp_X3_holds (q_5 + 1) a2 M_6 (fun r_10 M_9 => (¬ r_10 = 0 → wp_X6_lowestBits q_5 a3 M_9 (fun r_13 M_12 => wp_X3_replace (q_5 + 1) a2 r_13 M_12 (fun M_14 => Q 1 M_14))) ∧ (r_10 = 0 → wp_X9_refuse h 1 M_9 (fun r_16 M_15 => Q r_16 M_15)))) ∧ (¬ r_7 = 0 → wp_X9_refuse h 2 M_6 (fun r_18 M_17 => Q r_18 M_17))))) ∧ (r_2 = 0 → wp_X9_refuse h 1 M_1 (fun r_20 M_19 => Q r_20 M_19))))
set_option maxHeartbeats 4000000 in
set_option maxRecDepth 100000 in
theorem so_X9_put (l : Launch) (G : Gm) (h : Nat) (a1 : Int32) (a2 : Int32) (a3 : Int32) (M : Mem) (Q : Int32 → Mem → Prop) (hw : wp_X9_put h a1 a2 a3 M Q) : Ct l G yX9_put cX9_put 5 (some .int) ({ frames := 2, cells := 0, slots := 0, locals := 43 } : Room) [.ref (G.1 + h), .int a1, .int a2, .int a3] M (Qi Q) := by
  unfold wp_X9_put at hw
  obtain ⟨kh, hw⟩ := hw
  refine ct_of (by decide) (Nat.le_of_ble_eq_true rfl) ?_
  intro p e s m below meth c E_ ls H hl hP hS
  obtain ⟨hx, hb, hml, hown, hts, ht, hr, hlocks, hSt, hTb⟩ := E_
  have hl : lv_has ls 5 [(0, .ref (G.1 + h)), (1, .int a1), (2, .int a2), (3, .int a3)] := hl
  refine lv_iload_n hx hb dX9_put_0 rfl (lv_at hl 1 rfl) ?_
  refine mw_Sx (As := [.int a1]) (rest := []) (n := 1) ⟨hx, hb, hml, hown, hts⟩ (so_X9_isSheet l G a1 M _ hw) wm_RX9_221 wt_yX9_isSheet wn_RX9 wc_yX9_isSheet (by decide) ⟨Nat.le_of_ble_eq_true rfl, Nat.le_of_ble_eq_true rfl⟩ ⟨rfl, rfl⟩ hSt hTb hP hS rfl hl.1 rfl (Nat.le_of_ble_eq_true rfl) dX9_put_1 ⟨Nat.le_refl 0, Nat.le_refl 0⟩ (fun rr_ M_1 H locs hq hP hS => ?_)
  obtain ⟨r_2, rfl, hw⟩ := hq
  refine lv_if_ne (tgt := 13) hx hb dX9_put_4 (by decide) (fun c_3 => ?_) (fun c_3 => ?_)
  · have hw := hw.1 c_3
    refine lv_aload_n hx hb dX9_put_13 rfl (lv_at hl 0 rfl) ?_
    refine mw_get (ci := 9) (v := .ref (G.1 + (h + 106))) (C := RX9) (T := TX9) (N := 8) hx hb ht inX9 hown hSt hP kh (by decide) (mk9 kh) rfl 5 (by decide) (ht _ wf_RX9_42) rfl rfl dX9_put_14 ?_
    refine lv_iload_n hx hb dX9_put_17 rfl (lv_at hl 1 rfl) ?_
    obtain ⟨c_4, hw⟩ := hw
    refine mw_aald14 hx hb hSt hP (ks9_5 kh) (by rw [(ln9_5 kh)]; exact c_4) dX9_put_18 ?_
    obtain ⟨q_5, eq_5⟩ : ∃ z, z = h + 106 + 2 + 3 * a1.toNatClampNeg := ⟨_, rfl⟩
    have hw := hw q_5 eq_5
    have kq_5 : kdT q_5 = 6 := by rw [eq_5]; exact (ke14 (ks9_5 kh) (vp_lt (by rw [(ln9_5 kh)]; exact c_4)))
    rw [← eq_5]
    refine lv_astore (lv' := [(4, .ref (G.1 + q_5)), (0, .ref (G.1 + h)), (1, .int a1), (2, .int a2), (3, .int a3)]) hx hb dX9_put_19 hl (by decide) rfl (fun ls hl => ?_)
    refine lv_aload hx hb dX9_put_21 (lv_at hl 0 rfl) ?_
    refine mw_V (As := []) (rest := []) (T := TX6) (N := 2) (n := 0) ⟨hx, hb, hml, hown, hts⟩ (so_X6_isMissing l G q_5 M_1 _ hw) wm_RX9_224 wi_yX6_isMissing wv_yX6_isMissing wn_RX6 wc_yX6_isMissing (by decide) ⟨Nat.le_of_ble_eq_true rfl, Nat.le_of_ble_eq_true rfl⟩ ⟨rfl, rfl⟩ kq_5 (by decide) (mk6 kq_5) rfl hSt hTb hP hS rfl hl.1 rfl (Nat.le_of_ble_eq_true rfl) dX9_put_23 ⟨Nat.le_refl 0, Nat.le_refl 0⟩ (fun rr_ M_6 H locs hq hP hS => ?_)
    obtain ⟨r_7, rfl, hw⟩ := hq
    refine lv_if_eq (tgt := 35) hx hb dX9_put_26 (by decide) (fun c_8 => ?_) (fun c_8 => ?_)
    · have hw := hw.1 c_8
      refine lv_aload hx hb dX9_put_35 (lv_at hl 0 rfl) ?_
      refine mw_get (ci := 6) (v := .ref (G.1 + (q_5 + 1))) (C := RX6) (T := TX6) (N := 2) hx hb ht inX6 hown hSt hP kq_5 (by decide) (mk6 kq_5) rfl 0 (by decide) (ht _ wf_RX9_228) rfl rfl dX9_put_37 ?_
      refine lv_iload_n hx hb dX9_put_40 rfl (lv_at hl 3 rfl) ?_
      refine mw_V (As := [.int a2]) (rest := []) (T := TX3) (N := 2) (n := 1) ⟨hx, hb, hml, hown, hts⟩ (so_X3_holds l G (q_5 + 1) a2 M_6 _ hw) wm_RX9_254 wi_yX3_holds wv_yX3_holds wn_RX3 wc_yX3_holds (by decide) ⟨Nat.le_of_ble_eq_true rfl, Nat.le_of_ble_eq_true rfl⟩ ⟨rfl, rfl⟩ (ks6_0 kq_5) (by decide) (mk3 (ks6_0 kq_5)) rfl hSt hTb hP hS rfl hl.1 rfl (Nat.le_of_ble_eq_true rfl) dX9_put_41 ⟨Nat.le_refl 0, Nat.le_refl 0⟩ (fun rr_ M_9 H locs hq hP hS => ?_)
      obtain ⟨r_10, rfl, hw⟩ := hq
      refine lv_if_ne (tgt := 53) hx hb dX9_put_44 (by decide) (fun c_11 => ?_) (fun c_11 => ?_)
      · have hw := hw.1 c_11
        refine lv_aload hx hb dX9_put_53 (lv_at hl 0 rfl) ?_
        refine mw_get (ci := 6) (v := .ref (G.1 + (q_5 + 1))) (C := RX6) (T := TX6) (N := 2) hx hb ht inX6 hown hSt hP kq_5 (by decide) (mk6 kq_5) rfl 0 (by decide) (ht _ wf_RX9_228) rfl rfl dX9_put_55 ?_
        refine lv_iload_n hx hb dX9_put_58 rfl (lv_at hl 3 rfl) ?_
        refine lv_aload hx hb dX9_put_59 (lv_at hl 0 rfl) ?_
        refine lv_iload_n hx hb dX9_put_61 rfl (lv_at hl 4 rfl) ?_
        refine mw_V (As := [.int a3]) (rest := [.int a2, .ref (G.1 + (q_5 + 1))]) (T := TX6) (N := 2) (n := 1) ⟨hx, hb, hml, hown, hts⟩ (so_X6_lowestBits l G q_5 a3 M_9 _ hw) wm_RX9_261 wi_yX6_lowestBits wv_yX6_lowestBits wn_RX6 wc_yX6_lowestBits (by decide) ⟨Nat.le_of_ble_eq_true rfl, Nat.le_of_ble_eq_true rfl⟩ ⟨rfl, rfl⟩ kq_5 (by decide) (mk6 kq_5) rfl hSt hTb hP hS rfl hl.1 rfl (Nat.le_of_ble_eq_true rfl) dX9_put_62 ⟨Nat.le_refl 0, Nat.le_refl 0⟩ (fun rr_ M_12 H locs hq hP hS => ?_)
        obtain ⟨r_13, rfl, hw⟩ := hq
        refine mw_V (As := [.int a2, .int r_13]) (rest := []) (T := TX3) (N := 2) (n := 2) ⟨hx, hb, hml, hown, hts⟩ (so_X3_replace l G (q_5 + 1) a2 r_13 M_12 _ hw) wm_RX9_264 wi_yX3_replace wv_yX3_replace wn_RX3 wc_yX3_replace (by decide) ⟨Nat.le_of_ble_eq_true rfl, Nat.le_of_ble_eq_true rfl⟩ ⟨rfl, rfl⟩ (ks6_0 kq_5) (by decide) (mk3 (ks6_0 kq_5)) rfl hSt hTb hP hS rfl hl.1 rfl (Nat.le_of_ble_eq_true rfl) dX9_put_65 ⟨Nat.le_refl 0, Nat.le_refl 0⟩ (fun rr_ M_14 H locs hq hP hS => ?_)
        obtain ⟨rfl, hw⟩ := hq
        refine lv_iconst (v := 1) hx hb dX9_put_68 (by decide) ?_
        exact W.iret hx hb hr (mw_end hP hSt hTb hS ⟨_, rfl, hw⟩) hS.2.2 dX9_put_69
      · have hw := hw.2 c_11
        refine lv_aload_n hx hb dX9_put_47 rfl (lv_at hl 1 rfl) ?_
        refine lv_iconst (v := 1) hx hb dX9_put_48 (by decide) ?_
        refine mw_V (As := [.int 1]) (rest := []) (T := TX9) (N := 8) (n := 1) ⟨hx, hb, hml, hown, hts⟩ (so_X9_refuse l G h 1 M_9 _ hw) wm_RX9_59 wi_yX9_refuse wv_yX9_refuse wn_RX9 wc_yX9_refuse (by decide) ⟨Nat.le_of_ble_eq_true rfl, Nat.le_of_ble_eq_true rfl⟩ ⟨rfl, rfl⟩ kh (by decide) (mk9 kh) rfl hSt hTb hP hS rfl hl.1 rfl (Nat.le_of_ble_eq_true rfl) dX9_put_49 ⟨Nat.le_refl 0, Nat.le_refl 0⟩ (fun rr_ M_15 H locs hq hP hS => ?_)
        obtain ⟨r_16, rfl, hw⟩ := hq
        exact W.iret hx hb hr (mw_end hP hSt hTb hS ⟨_, rfl, hw⟩) hS.2.2 dX9_put_52
    · have hw := hw.2 c_8
      refine lv_aload_n hx hb dX9_put_29 rfl (lv_at hl 1 rfl) ?_
      refine lv_iconst (v := 2) hx hb dX9_put_30 (by decide) ?_
      refine mw_V (As := [.int 2]) (rest := []) (T := TX9) (N := 8) (n := 1) ⟨hx, hb, hml, hown, hts⟩ (so_X9_refuse l G h 2 M_6 _ hw) wm_RX9_59 wi_yX9_refuse wv_yX9_refuse wn_RX9 wc_yX9_refuse (by decide) ⟨Nat.le_of_ble_eq_true rfl, Nat.le_of_ble_eq_true rfl⟩ ⟨rfl, rfl⟩ kh (by decide) (mk9 kh) rfl hSt hTb hP hS rfl hl.1 rfl (Nat.le_of_ble_eq_true rfl) dX9_put_31 ⟨Nat.le_refl 0, Nat.le_refl 0⟩ (fun rr_ M_17 H locs hq hP hS => ?_)
      obtain ⟨r_18, rfl, hw⟩ := hq
      exact W.iret hx hb hr (mw_end hP hSt hTb hS ⟨_, rfl, hw⟩) hS.2.2 dX9_put_34
  · have hw := hw.2 c_3
    refine lv_aload_n hx hb dX9_put_7 rfl (lv_at hl 0 rfl) ?_
    refine lv_iconst (v := 1) hx hb dX9_put_8 (by decide) ?_
    refine mw_V (As := [.int 1]) (rest := []) (T := TX9) (N := 8) (n := 1) ⟨hx, hb, hml, hown, hts⟩ (so_X9_refuse l G h 1 M_1 _ hw) wm_RX9_59 wi_yX9_refuse wv_yX9_refuse wn_RX9 wc_yX9_refuse (by decide) ⟨Nat.le_of_ble_eq_true rfl, Nat.le_of_ble_eq_true rfl⟩ ⟨rfl, rfl⟩ kh (by decide) (mk9 kh) rfl hSt hTb hP hS rfl hl.1 rfl (Nat.le_of_ble_eq_true rfl) dX9_put_9 ⟨Nat.le_refl 0, Nat.le_refl 0⟩ (fun rr_ M_19 H locs hq hP hS => ?_)
    obtain ⟨r_20, rfl, hw⟩ := hq
    exact W.iret hx hb hr (mw_end hP hSt hTb hS ⟨_, rfl, hw⟩) hS.2.2 dX9_put_12
def b_X9_move_106 (h : Nat) (Q : Int32 → Mem → Prop) (M : Mem) : Prop :=
  wp_X9_refuse h 1 M (fun r_2 M_1 => Q r_2 M_1)
def b_X9_move_52 (h : Nat) (Q : Int32 → Mem → Prop) (M : Mem) : Prop :=
  wp_X9_refuse h 2 M (fun r_4 M_3 => Q r_4 M_3)
def b_X9_move_14 (h : Nat) (Q : Int32 → Mem → Prop) (M : Mem) : Prop :=
  wp_X9_refuse h 1 M (fun r_6 M_5 => Q r_6 M_5)
def wp_X9_move (h : Nat) (a1 : Int32) (a2 : Int32) (a3 : Int32) (a4 : Int32) (a5 : Int32) (M : Mem) (Q : Int32 → Mem → Prop) : Prop :=
  kdT h = 9 ∧ (wp_X9_isSheet a1 M (fun r_8 M_7 => (r_8 = 0 → b_X9_move_14 h Q M_7) ∧ (¬ r_8 = 0 → wp_X9_isSheet a3 M_7 (fun r_11 M_10 => (¬ r_11 = 0 → vp_in a1 4 ∧ (∀ q_14, q_14 = h + 106 + 2 + 3 * a1.toNatClampNeg → vp_in a3 4 ∧ (∀ q_16, q_16 = h + 106 + 2 + 3 * a3.toNatClampNeg → wp_X6_isMissing q_14 M_10 (fun r_18 M_17 => (¬ r_18 = 0 → b_X9_move_52 h Q M_17) ∧ (r_18 = 0 → wp_X6_isMissing q_16 M_17 (fun r_21 M_20 => (r_21 = 0 → ((M_20 q_14 1) = (M_20 q_16 1) → wp_X3_holdsRun (q_14 + 1) a2 a5 M_20 (fun r_25 M_24 => (r_25 = 0 → b_X9_move_106 h Q M_24) ∧ (¬ r_25 = 0 → wp_X3_holdsRun (q_16 + 1) a4 a5 M_24 (fun r_28 M_27 => (¬ r_28 = 0 → wp_X3_replaceRun (q_16 + 1) a4 (q_14 + 1) a2 a5 M_27 (fun M_30 => Q a5 M_30)) ∧ (r_28 = 0 → b_X9_move_106 h Q M_27))))) ∧ (¬ (M_20 q_14 1) = (M_20 q_16 1) → wp_X9_refuse h 5 M_20 (fun r_32 M_31 => Q r_32 M_31))) ∧ (¬ r_21 = 0 → b_X9_move_52 h Q M_20))))))) ∧ (r_11 = 0 → b_X9_move_14 h Q M_10)))))
set_option maxHeartbeats 4000000 in
set_option maxRecDepth 100000 in
theorem so_X9_move (l : Launch) (G : Gm) (h : Nat) (a1 : Int32) (a2 : Int32) (a3 : Int32) (a4 : Int32) (a5 : Int32) (M : Mem) (Q : Int32 → Mem → Prop) (hw : wp_X9_move h a1 a2 a3 a4 a5 M Q) : Ct l G yX9_move cX9_move 8 (some .int) ({ frames := 2, cells := 0, slots := 0, locals := 84 } : Room) [.ref (G.1 + h), .int a1, .int a2, .int a3, .int a4, .int a5] M (Qi Q) := by
  unfold wp_X9_move at hw
  obtain ⟨kh, hw⟩ := hw
  refine ct_of (by decide) (Nat.le_of_ble_eq_true rfl) ?_
  intro p e s m below meth c E_ ls H hl hP hS
  obtain ⟨hx, hb, hml, hown, hts, ht, hr, hlocks, hSt, hTb⟩ := E_
  have hl : lv_has ls 8 [(0, .ref (G.1 + h)), (1, .int a1), (2, .int a2), (3, .int a3), (4, .int a4), (5, .int a5)] := hl
  have J_106 : ∀  (M : Mem) (H : Heap) (locs : List Loc) (ls : Array Slot), b_X9_move_106 h Q M → va_P G.2.1 clsA (wl G M) H → va_S (inW G) s.heap H locs → lv_has ls 8 [(0, .ref (G.1 + h))] → W p l e ({ frames := 2, cells := 0, slots := 0, locals := 84 } : Room) s m ([.ref (G.1 + h), .int a1, .int a2, .int a3, .int a4, .int a5] : List Value).toArray below meth c H locs 0 0 (MQ below (Pq G (Qi Q)) ([.ref (G.1 + h), .int a1, .int a2, .int a3, .int a4, .int a5] : List Value).toArray s 0 0 (inW G)) (F0 m 106 ls []) := by
    intro  M H locs ls  hw hP hS hl
    unfold b_X9_move_106 at hw
    refine lv_aload_n hx hb dX9_move_106 rfl (lv_at hl 0 rfl) ?_
    refine lv_iconst (v := 1) hx hb dX9_move_107 (by decide) ?_
    refine mw_V (As := [.int 1]) (rest := []) (T := TX9) (N := 8) (n := 1) ⟨hx, hb, hml, hown, hts⟩ (so_X9_refuse l G h 1 M _ hw) wm_RX9_59 wi_yX9_refuse wv_yX9_refuse wn_RX9 wc_yX9_refuse (by decide) ⟨Nat.le_of_ble_eq_true rfl, Nat.le_of_ble_eq_true rfl⟩ ⟨rfl, rfl⟩ kh (by decide) (mk9 kh) rfl hSt hTb hP hS rfl hl.1 rfl (Nat.le_of_ble_eq_true rfl) dX9_move_108 ⟨Nat.le_refl 0, Nat.le_refl 0⟩ (fun rr_ M_1 H locs hq hP hS => ?_)
    obtain ⟨r_2, rfl, hw⟩ := hq
    exact W.iret hx hb hr (mw_end hP hSt hTb hS ⟨_, rfl, hw⟩) hS.2.2 dX9_move_111
  have J_52 : ∀  (M : Mem) (H : Heap) (locs : List Loc) (ls : Array Slot), b_X9_move_52 h Q M → va_P G.2.1 clsA (wl G M) H → va_S (inW G) s.heap H locs → lv_has ls 8 [(0, .ref (G.1 + h))] → W p l e ({ frames := 2, cells := 0, slots := 0, locals := 84 } : Room) s m ([.ref (G.1 + h), .int a1, .int a2, .int a3, .int a4, .int a5] : List Value).toArray below meth c H locs 0 0 (MQ below (Pq G (Qi Q)) ([.ref (G.1 + h), .int a1, .int a2, .int a3, .int a4, .int a5] : List Value).toArray s 0 0 (inW G)) (F0 m 52 ls []) := by
    intro  M H locs ls  hw hP hS hl
    unfold b_X9_move_52 at hw
    refine lv_aload_n hx hb dX9_move_52 rfl (lv_at hl 0 rfl) ?_
    refine lv_iconst (v := 2) hx hb dX9_move_53 (by decide) ?_
    refine mw_V (As := [.int 2]) (rest := []) (T := TX9) (N := 8) (n := 1) ⟨hx, hb, hml, hown, hts⟩ (so_X9_refuse l G h 2 M _ hw) wm_RX9_59 wi_yX9_refuse wv_yX9_refuse wn_RX9 wc_yX9_refuse (by decide) ⟨Nat.le_of_ble_eq_true rfl, Nat.le_of_ble_eq_true rfl⟩ ⟨rfl, rfl⟩ kh (by decide) (mk9 kh) rfl hSt hTb hP hS rfl hl.1 rfl (Nat.le_of_ble_eq_true rfl) dX9_move_54 ⟨Nat.le_refl 0, Nat.le_refl 0⟩ (fun rr_ M_3 H locs hq hP hS => ?_)
    obtain ⟨r_4, rfl, hw⟩ := hq
    exact W.iret hx hb hr (mw_end hP hSt hTb hS ⟨_, rfl, hw⟩) hS.2.2 dX9_move_57
  have J_14 : ∀  (M : Mem) (H : Heap) (locs : List Loc) (ls : Array Slot), b_X9_move_14 h Q M → va_P G.2.1 clsA (wl G M) H → va_S (inW G) s.heap H locs → lv_has ls 8 [(0, .ref (G.1 + h))] → W p l e ({ frames := 2, cells := 0, slots := 0, locals := 84 } : Room) s m ([.ref (G.1 + h), .int a1, .int a2, .int a3, .int a4, .int a5] : List Value).toArray below meth c H locs 0 0 (MQ below (Pq G (Qi Q)) ([.ref (G.1 + h), .int a1, .int a2, .int a3, .int a4, .int a5] : List Value).toArray s 0 0 (inW G)) (F0 m 14 ls []) := by
    intro  M H locs ls  hw hP hS hl
    unfold b_X9_move_14 at hw
    refine lv_aload_n hx hb dX9_move_14 rfl (lv_at hl 0 rfl) ?_
    refine lv_iconst (v := 1) hx hb dX9_move_15 (by decide) ?_
    refine mw_V (As := [.int 1]) (rest := []) (T := TX9) (N := 8) (n := 1) ⟨hx, hb, hml, hown, hts⟩ (so_X9_refuse l G h 1 M _ hw) wm_RX9_59 wi_yX9_refuse wv_yX9_refuse wn_RX9 wc_yX9_refuse (by decide) ⟨Nat.le_of_ble_eq_true rfl, Nat.le_of_ble_eq_true rfl⟩ ⟨rfl, rfl⟩ kh (by decide) (mk9 kh) rfl hSt hTb hP hS rfl hl.1 rfl (Nat.le_of_ble_eq_true rfl) dX9_move_16 ⟨Nat.le_refl 0, Nat.le_refl 0⟩ (fun rr_ M_5 H locs hq hP hS => ?_)
    obtain ⟨r_6, rfl, hw⟩ := hq
    exact W.iret hx hb hr (mw_end hP hSt hTb hS ⟨_, rfl, hw⟩) hS.2.2 dX9_move_19
  refine lv_iload_n hx hb dX9_move_0 rfl (lv_at hl 1 rfl) ?_
  refine mw_Sx (As := [.int a1]) (rest := []) (n := 1) ⟨hx, hb, hml, hown, hts⟩ (so_X9_isSheet l G a1 M _ hw) wm_RX9_221 wt_yX9_isSheet wn_RX9 wc_yX9_isSheet (by decide) ⟨Nat.le_of_ble_eq_true rfl, Nat.le_of_ble_eq_true rfl⟩ ⟨rfl, rfl⟩ hSt hTb hP hS rfl hl.1 rfl (Nat.le_of_ble_eq_true rfl) dX9_move_1 ⟨Nat.le_refl 0, Nat.le_refl 0⟩ (fun rr_ M_7 H locs hq hP hS => ?_)
  obtain ⟨r_8, rfl, hw⟩ := hq
  refine lv_if_eq (tgt := 14) hx hb dX9_move_4 (by decide) (fun c_9 => ?_) (fun c_9 => ?_)
  · have hw := hw.1 c_9
    exact J_14 M_7 _ _ _ hw hP hS (lv_sub hl [0] rfl)
  · have hw := hw.2 c_9
    refine lv_iload_n hx hb dX9_move_7 rfl (lv_at hl 3 rfl) ?_
    refine mw_Sx (As := [.int a3]) (rest := []) (n := 1) ⟨hx, hb, hml, hown, hts⟩ (so_X9_isSheet l G a3 M_7 _ hw) wm_RX9_221 wt_yX9_isSheet wn_RX9 wc_yX9_isSheet (by decide) ⟨Nat.le_of_ble_eq_true rfl, Nat.le_of_ble_eq_true rfl⟩ ⟨rfl, rfl⟩ hSt hTb hP hS rfl hl.1 rfl (Nat.le_of_ble_eq_true rfl) dX9_move_8 ⟨Nat.le_refl 0, Nat.le_refl 0⟩ (fun rr_ M_10 H locs hq hP hS => ?_)
    obtain ⟨r_11, rfl, hw⟩ := hq
    refine lv_if_ne (tgt := 20) hx hb dX9_move_11 (by decide) (fun c_12 => ?_) (fun c_12 => ?_)
    · have hw := hw.1 c_12
      refine lv_aload_n hx hb dX9_move_20 rfl (lv_at hl 0 rfl) ?_
      refine mw_get (ci := 9) (v := .ref (G.1 + (h + 106))) (C := RX9) (T := TX9) (N := 8) hx hb ht inX9 hown hSt hP kh (by decide) (mk9 kh) rfl 5 (by decide) (ht _ wf_RX9_42) rfl rfl dX9_move_21 ?_
      refine lv_iload_n hx hb dX9_move_24 rfl (lv_at hl 1 rfl) ?_
      obtain ⟨c_13, hw⟩ := hw
      refine mw_aald14 hx hb hSt hP (ks9_5 kh) (by rw [(ln9_5 kh)]; exact c_13) dX9_move_25 ?_
      obtain ⟨q_14, eq_14⟩ : ∃ z, z = h + 106 + 2 + 3 * a1.toNatClampNeg := ⟨_, rfl⟩
      have hw := hw q_14 eq_14
      have kq_14 : kdT q_14 = 6 := by rw [eq_14]; exact (ke14 (ks9_5 kh) (vp_lt (by rw [(ln9_5 kh)]; exact c_13)))
      rw [← eq_14]
      refine lv_astore (lv' := [(6, .ref (G.1 + q_14)), (0, .ref (G.1 + h)), (1, .int a1), (2, .int a2), (3, .int a3), (4, .int a4), (5, .int a5)]) hx hb dX9_move_26 hl (by decide) rfl (fun ls hl => ?_)
      refine lv_aload_n hx hb dX9_move_28 rfl (lv_at hl 1 rfl) ?_
      refine mw_get (ci := 9) (v := .ref (G.1 + (h + 106))) (C := RX9) (T := TX9) (N := 8) hx hb ht inX9 hown hSt hP kh (by decide) (mk9 kh) rfl 5 (by decide) (ht _ wf_RX9_42) rfl rfl dX9_move_29 ?_
      refine lv_iload_n hx hb dX9_move_32 rfl (lv_at hl 4 rfl) ?_
      obtain ⟨c_15, hw⟩ := hw
      refine mw_aald14 hx hb hSt hP (ks9_5 kh) (by rw [(ln9_5 kh)]; exact c_15) dX9_move_33 ?_
      obtain ⟨q_16, eq_16⟩ : ∃ z, z = h + 106 + 2 + 3 * a3.toNatClampNeg := ⟨_, rfl⟩
      have hw := hw q_16 eq_16
      have kq_16 : kdT q_16 = 6 := by rw [eq_16]; exact (ke14 (ks9_5 kh) (vp_lt (by rw [(ln9_5 kh)]; exact c_15)))
      rw [← eq_16]
      refine lv_astore (lv' := [(7, .ref (G.1 + q_16)), (6, .ref (G.1 + q_14)), (0, .ref (G.1 + h)), (1, .int a1), (2, .int a2), (3, .int a3), (4, .int a4), (5, .int a5)]) hx hb dX9_move_34 hl (by decide) rfl (fun ls hl => ?_)
      refine lv_aload hx hb dX9_move_36 (lv_at hl 1 rfl) ?_
      refine mw_V (As := []) (rest := []) (T := TX6) (N := 2) (n := 0) ⟨hx, hb, hml, hown, hts⟩ (so_X6_isMissing l G q_14 M_10 _ hw) wm_RX9_224 wi_yX6_isMissing wv_yX6_isMissing wn_RX6 wc_yX6_isMissing (by decide) ⟨Nat.le_of_ble_eq_true rfl, Nat.le_of_ble_eq_true rfl⟩ ⟨rfl, rfl⟩ kq_14 (by decide) (mk6 kq_14) rfl hSt hTb hP hS rfl hl.1 rfl (Nat.le_of_ble_eq_true rfl) dX9_move_38 ⟨Nat.le_refl 0, Nat.le_refl 0⟩ (fun rr_ M_17 H locs hq hP hS => ?_)
      obtain ⟨r_18, rfl, hw⟩ := hq
      refine lv_if_ne (tgt := 52) hx hb dX9_move_41 (by decide) (fun c_19 => ?_) (fun c_19 => ?_)
      · have hw := hw.1 c_19
        exact J_52 M_17 _ _ _ hw hP hS (lv_sub hl [2] rfl)
      · have hw := hw.2 c_19
        refine lv_aload hx hb dX9_move_44 (lv_at hl 0 rfl) ?_
        refine mw_V (As := []) (rest := []) (T := TX6) (N := 2) (n := 0) ⟨hx, hb, hml, hown, hts⟩ (so_X6_isMissing l G q_16 M_17 _ hw) wm_RX9_224 wi_yX6_isMissing wv_yX6_isMissing wn_RX6 wc_yX6_isMissing (by decide) ⟨Nat.le_of_ble_eq_true rfl, Nat.le_of_ble_eq_true rfl⟩ ⟨rfl, rfl⟩ kq_16 (by decide) (mk6 kq_16) rfl hSt hTb hP hS rfl hl.1 rfl (Nat.le_of_ble_eq_true rfl) dX9_move_46 ⟨Nat.le_refl 0, Nat.le_refl 0⟩ (fun rr_ M_20 H locs hq hP hS => ?_)
        obtain ⟨r_21, rfl, hw⟩ := hq
        refine lv_if_eq (tgt := 58) hx hb dX9_move_49 (by decide) (fun c_22 => ?_) (fun c_22 => ?_)
        · have hw := hw.1 c_22
          refine lv_aload hx hb dX9_move_58 (lv_at hl 1 rfl) ?_
          refine mw_get (ci := 6) (v := .int (M_20 q_14 1)) (C := RX6) (T := TX6) (N := 2) hx hb ht inX6 hown hSt hP kq_14 (by decide) (mk6 kq_14) rfl 1 (by decide) (ht _ wf_RX9_267) rfl rfl dX9_move_60 ?_
          refine lv_aload hx hb dX9_move_63 (lv_at hl 0 rfl) ?_
          refine mw_get (ci := 6) (v := .int (M_20 q_16 1)) (C := RX6) (T := TX6) (N := 2) hx hb ht inX6 hown hSt hP kq_16 (by decide) (mk6 kq_16) rfl 1 (by decide) (ht _ wf_RX9_267) rfl rfl dX9_move_65 ?_
          refine lv_icmp_eq (tgt := 77) hx hb dX9_move_68 (by decide) (fun c_23 => ?_) (fun c_23 => ?_)
          · have hw := hw.1 c_23
            refine lv_aload hx hb dX9_move_77 (lv_at hl 1 rfl) ?_
            refine mw_get (ci := 6) (v := .ref (G.1 + (q_14 + 1))) (C := RX6) (T := TX6) (N := 2) hx hb ht inX6 hown hSt hP kq_14 (by decide) (mk6 kq_14) rfl 0 (by decide) (ht _ wf_RX9_228) rfl rfl dX9_move_79 ?_
            refine lv_iload_n hx hb dX9_move_82 rfl (lv_at hl 4 rfl) ?_
            refine lv_iload hx hb dX9_move_83 (lv_at hl 7 rfl) ?_
            refine mw_V (As := [.int a2, .int a5]) (rest := []) (T := TX3) (N := 2) (n := 2) ⟨hx, hb, hml, hown, hts⟩ (so_X3_holdsRun l G (q_14 + 1) a2 a5 M_20 _ hw) wm_RX9_270 wi_yX3_holdsRun wv_yX3_holdsRun wn_RX3 wc_yX3_holdsRun (by decide) ⟨Nat.le_of_ble_eq_true rfl, Nat.le_of_ble_eq_true rfl⟩ ⟨rfl, rfl⟩ (ks6_0 kq_14) (by decide) (mk3 (ks6_0 kq_14)) rfl hSt hTb hP hS rfl hl.1 rfl (Nat.le_of_ble_eq_true rfl) dX9_move_85 ⟨Nat.le_refl 0, Nat.le_refl 0⟩ (fun rr_ M_24 H locs hq hP hS => ?_)
            obtain ⟨r_25, rfl, hw⟩ := hq
            refine lv_if_eq (tgt := 106) hx hb dX9_move_88 (by decide) (fun c_26 => ?_) (fun c_26 => ?_)
            · have hw := hw.1 c_26
              exact J_106 M_24 _ _ _ hw hP hS (lv_sub hl [2] rfl)
            · have hw := hw.2 c_26
              refine lv_aload hx hb dX9_move_91 (lv_at hl 0 rfl) ?_
              refine mw_get (ci := 6) (v := .ref (G.1 + (q_16 + 1))) (C := RX6) (T := TX6) (N := 2) hx hb ht inX6 hown hSt hP kq_16 (by decide) (mk6 kq_16) rfl 0 (by decide) (ht _ wf_RX9_228) rfl rfl dX9_move_93 ?_
              refine lv_iload hx hb dX9_move_96 (lv_at hl 6 rfl) ?_
              refine lv_iload hx hb dX9_move_98 (lv_at hl 7 rfl) ?_
              refine mw_V (As := [.int a4, .int a5]) (rest := []) (T := TX3) (N := 2) (n := 2) ⟨hx, hb, hml, hown, hts⟩ (so_X3_holdsRun l G (q_16 + 1) a4 a5 M_24 _ hw) wm_RX9_270 wi_yX3_holdsRun wv_yX3_holdsRun wn_RX3 wc_yX3_holdsRun (by decide) ⟨Nat.le_of_ble_eq_true rfl, Nat.le_of_ble_eq_true rfl⟩ ⟨rfl, rfl⟩ (ks6_0 kq_16) (by decide) (mk3 (ks6_0 kq_16)) rfl hSt hTb hP hS rfl hl.1 rfl (Nat.le_of_ble_eq_true rfl) dX9_move_100 ⟨Nat.le_refl 0, Nat.le_refl 0⟩ (fun rr_ M_27 H locs hq hP hS => ?_)
              obtain ⟨r_28, rfl, hw⟩ := hq
              refine lv_if_ne (tgt := 112) hx hb dX9_move_103 (by decide) (fun c_29 => ?_) (fun c_29 => ?_)
              · have hw := hw.1 c_29
                refine lv_aload hx hb dX9_move_112 (lv_at hl 0 rfl) ?_
                refine mw_get (ci := 6) (v := .ref (G.1 + (q_16 + 1))) (C := RX6) (T := TX6) (N := 2) hx hb ht inX6 hown hSt hP kq_16 (by decide) (mk6 kq_16) rfl 0 (by decide) (ht _ wf_RX9_228) rfl rfl dX9_move_114 ?_
                refine lv_iload hx hb dX9_move_117 (lv_at hl 6 rfl) ?_
                refine lv_aload hx hb dX9_move_119 (lv_at hl 1 rfl) ?_
                refine mw_get (ci := 6) (v := .ref (G.1 + (q_14 + 1))) (C := RX6) (T := TX6) (N := 2) hx hb ht inX6 hown hSt hP kq_14 (by decide) (mk6 kq_14) rfl 0 (by decide) (ht _ wf_RX9_228) rfl rfl dX9_move_121 ?_
                refine lv_iload_n hx hb dX9_move_124 rfl (lv_at hl 4 rfl) ?_
                refine lv_iload hx hb dX9_move_125 (lv_at hl 7 rfl) ?_
                refine mw_V (As := [.int a4, .ref (G.1 + (q_14 + 1)), .int a2, .int a5]) (rest := []) (T := TX3) (N := 2) (n := 4) ⟨hx, hb, hml, hown, hts⟩ (so_X3_replaceRun l G (q_16 + 1) a4 (q_14 + 1) a2 a5 M_27 _ hw) wm_RX9_273 wi_yX3_replaceRun wv_yX3_replaceRun wn_RX3 wc_yX3_replaceRun (by decide) ⟨Nat.le_of_ble_eq_true rfl, Nat.le_of_ble_eq_true rfl⟩ ⟨rfl, rfl⟩ (ks6_0 kq_16) (by decide) (mk3 (ks6_0 kq_16)) rfl hSt hTb hP hS rfl hl.1 rfl (Nat.le_of_ble_eq_true rfl) dX9_move_127 ⟨Nat.le_refl 0, Nat.le_refl 0⟩ (fun rr_ M_30 H locs hq hP hS => ?_)
                obtain ⟨rfl, hw⟩ := hq
                refine lv_iload hx hb dX9_move_130 (lv_at hl 7 rfl) ?_
                exact W.iret hx hb hr (mw_end hP hSt hTb hS ⟨_, rfl, hw⟩) hS.2.2 dX9_move_132
              · have hw := hw.2 c_29
                exact J_106 M_27 _ _ _ hw hP hS (lv_sub hl [2] rfl)
          · have hw := hw.2 c_23
            refine lv_aload_n hx hb dX9_move_71 rfl (lv_at hl 2 rfl) ?_
            refine lv_iconst (v := 5) hx hb dX9_move_72 (by decide) ?_
            refine mw_V (As := [.int 5]) (rest := []) (T := TX9) (N := 8) (n := 1) ⟨hx, hb, hml, hown, hts⟩ (so_X9_refuse l G h 5 M_20 _ hw) wm_RX9_59 wi_yX9_refuse wv_yX9_refuse wn_RX9 wc_yX9_refuse (by decide) ⟨Nat.le_of_ble_eq_true rfl, Nat.le_of_ble_eq_true rfl⟩ ⟨rfl, rfl⟩ kh (by decide) (mk9 kh) rfl hSt hTb hP hS rfl hl.1 rfl (Nat.le_of_ble_eq_true rfl) dX9_move_73 ⟨Nat.le_refl 0, Nat.le_refl 0⟩ (fun rr_ M_31 H locs hq hP hS => ?_)
            obtain ⟨r_32, rfl, hw⟩ := hq
            exact W.iret hx hb hr (mw_end hP hSt hTb hS ⟨_, rfl, hw⟩) hS.2.2 dX9_move_76
        · have hw := hw.2 c_22
          exact J_52 M_20 _ _ _ hw hP hS (lv_sub hl [2] rfl)
    · have hw := hw.2 c_12
      exact J_14 M_10 _ _ _ hw hP hS (lv_sub hl [0] rfl)
def B_X9_snows_35 (h : Nat) (Q : Int32 → Mem → Prop) (r2 : Nat) (K35 : Int32 → Mem → Prop) (v3 : Int32) (M : Mem) : Prop :=
  (10 ≤ v3 → Q v3 M) ∧ (¬ 10 ≤ v3 → ((M (r2 + 1) 1) ≤ v3 → Q v3 M) ∧ (¬ (M (r2 + 1) 1) ≤ v3 → wp_X3_get (r2 + 1) v3 M (fun r_4 M_3 => wp_X9_isWithin r_4 999 M_3 (fun r_6 M_5 => (r_6 = 0 → Q v3 M_5) ∧ (¬ r_6 = 0 → wp_X3_get (r2 + 1) v3 M_5 (fun r_9 M_8 => vp_in v3 10 ∧ ∀ M_11, M_11 = mu M_8 (h + 1 + 1 + 11) v3.toNatClampNeg r_9 → ∀ x_12 : Int32, x_12 = v3 + 1 → K35 x_12 M_11))))))
def l_X9_snows_35 (h : Nat) (Q : Int32 → Mem → Prop) (r2 : Nat) : Nat → Int32 → Mem → Prop
  | 0 => fun _ _ => False
  | n + 1 => B_X9_snows_35 h Q r2 (l_X9_snows_35 h Q r2 n)
def wp_X9_snows (h : Nat) (a1 : Int32) (M : Mem) (Q : Int32 → Mem → Prop) : Prop :=
  kdT h = 9 ∧ (wp_X9_isSheet a1 M (fun r_14 M_13 => (¬ r_14 = 0 → vp_in a1 4 ∧ (∀ q_17, q_17 = h + 106 + 2 + 3 * a1.toNatClampNeg → wp_X6_isMissing q_17 M_13 (fun r_19 M_18 => (r_19 = 0 → ∃ n, l_X9_snows_35 h Q q_17 n 0 M_18) ∧ (¬ r_19 = 0 → wp_X9_refuse h 2 M_18 (fun r_22 M_21 => Q r_22 M_21))))) ∧ (r_14 = 0 → wp_X9_refuse h 1 M_13 (fun r_24 M_23 => Q r_24 M_23))))
set_option maxHeartbeats 4000000 in
set_option maxRecDepth 100000 in
theorem so_X9_snows (l : Launch) (G : Gm) (h : Nat) (a1 : Int32) (M : Mem) (Q : Int32 → Mem → Prop) (hw : wp_X9_snows h a1 M Q) : Ct l G yX9_snows cX9_snows 4 (some .int) ({ frames := 2, cells := 0, slots := 0, locals := 41 } : Room) [.ref (G.1 + h), .int a1] M (Qi Q) := by
  unfold wp_X9_snows at hw
  obtain ⟨kh, hw⟩ := hw
  refine ct_of (by decide) (Nat.le_of_ble_eq_true rfl) ?_
  intro p e s m below meth c E_ ls H hl hP hS
  obtain ⟨hx, hb, hml, hown, hts, ht, hr, hlocks, hSt, hTb⟩ := E_
  have hl : lv_has ls 4 [(0, .ref (G.1 + h)), (1, .int a1)] := hl
  have L_35 : ∀ (r2 : Nat), kdT r2 = 6 → ∀ (n35 : Nat) (v3 : Int32) (M : Mem) (H : Heap) (locs : List Loc) (ls : Array Slot), l_X9_snows_35 h Q r2 n35 v3 M → va_P G.2.1 clsA (wl G M) H → va_S (inW G) s.heap H locs → lv_has ls 4 [(0, .ref (G.1 + h)), (2, .ref (G.1 + r2)), (3, .int v3)] → W p l e ({ frames := 2, cells := 0, slots := 0, locals := 41 } : Room) s m ([.ref (G.1 + h), .int a1] : List Value).toArray below meth c H locs 0 0 (MQ below (Pq G (Qi Q)) ([.ref (G.1 + h), .int a1] : List Value).toArray s 0 0 (inW G)) (F0 m 35 ls []) := by
    intro r2 kr2 n35
    induction n35 with
    | zero => intro v3 M H locs ls  hw hP hS hl; exact False.elim hw
    | succ n35 ih35 =>
      intro v3 M H locs ls  hw hP hS hl
      have hw : B_X9_snows_35 h Q r2 (l_X9_snows_35 h Q r2 n35) v3 M := hw
      unfold B_X9_snows_35 at hw
      refine lv_iload_n hx hb dX9_snows_35 rfl (lv_at hl 2 rfl) ?_
      refine lv_bipush (v := 10) hx hb dX9_snows_36 (by decide) ?_
      refine lv_icmp_ge (tgt := 95) hx hb dX9_snows_38 (by decide) (fun c_1 => ?_) (fun c_1 => ?_)
      · have hw := hw.1 c_1
        refine lv_iload_n hx hb dX9_snows_95 rfl (lv_at hl 2 rfl) ?_
        exact W.iret hx hb hr (mw_end hP hSt hTb hS ⟨_, rfl, hw⟩) hS.2.2 dX9_snows_96
      · have hw := hw.2 c_1
        refine lv_iload_n hx hb dX9_snows_41 rfl (lv_at hl 2 rfl) ?_
        refine lv_aload_n hx hb dX9_snows_42 rfl (lv_at hl 1 rfl) ?_
        refine mw_get (ci := 6) (v := .ref (G.1 + (r2 + 1))) (C := RX6) (T := TX6) (N := 2) hx hb ht inX6 hown hSt hP kr2 (by decide) (mk6 kr2) rfl 0 (by decide) (ht _ wf_RX9_228) rfl rfl dX9_snows_43 ?_
        refine mw_get (ci := 3) (v := .int (M (r2 + 1) 1)) (C := RX3) (T := TX3) (N := 2) hx hb ht inX3 hown hSt hP (ks6_0 kr2) (by decide) (mk3 (ks6_0 kr2)) rfl 1 (by decide) (ht _ wf_RX9_153) rfl rfl dX9_snows_46 ?_
        refine lv_icmp_ge (tgt := 95) hx hb dX9_snows_49 (by decide) (fun c_2 => ?_) (fun c_2 => ?_)
        · have hw := hw.1 c_2
          refine lv_iload_n hx hb dX9_snows_95 rfl (lv_at hl 2 rfl) ?_
          exact W.iret hx hb hr (mw_end hP hSt hTb hS ⟨_, rfl, hw⟩) hS.2.2 dX9_snows_96
        · have hw := hw.2 c_2
          refine lv_aload_n hx hb dX9_snows_52 rfl (lv_at hl 1 rfl) ?_
          refine mw_get (ci := 6) (v := .ref (G.1 + (r2 + 1))) (C := RX6) (T := TX6) (N := 2) hx hb ht inX6 hown hSt hP kr2 (by decide) (mk6 kr2) rfl 0 (by decide) (ht _ wf_RX9_228) rfl rfl dX9_snows_53 ?_
          refine lv_iload_n hx hb dX9_snows_56 rfl (lv_at hl 2 rfl) ?_
          refine mw_V (As := [.int v3]) (rest := []) (T := TX3) (N := 2) (n := 1) ⟨hx, hb, hml, hown, hts⟩ (so_X3_get l G (r2 + 1) v3 M _ hw) wm_RX9_238 wi_yX3_get wv_yX3_get wn_RX3 wc_yX3_get (by decide) ⟨Nat.le_of_ble_eq_true rfl, Nat.le_of_ble_eq_true rfl⟩ ⟨rfl, rfl⟩ (ks6_0 kr2) (by decide) (mk3 (ks6_0 kr2)) rfl hSt hTb hP hS rfl hl.1 rfl (Nat.le_of_ble_eq_true rfl) dX9_snows_57 ⟨Nat.le_refl 0, Nat.le_refl 0⟩ (fun rr_ M_3 H locs hq hP hS => ?_)
          obtain ⟨r_4, rfl, hw⟩ := hq
          refine lv_sipush (v := 999) hx hb dX9_snows_60 (by decide) ?_
          refine mw_Sx (As := [.int r_4, .int 999]) (rest := []) (n := 2) ⟨hx, hb, hml, hown, hts⟩ (so_X9_isWithin l G r_4 999 M_3 _ hw) wm_RX9_55 wt_yX9_isWithin wn_RX9 wc_yX9_isWithin (by decide) ⟨Nat.le_of_ble_eq_true rfl, Nat.le_of_ble_eq_true rfl⟩ ⟨rfl, rfl⟩ hSt hTb hP hS rfl hl.1 rfl (Nat.le_of_ble_eq_true rfl) dX9_snows_63 ⟨Nat.le_refl 0, Nat.le_refl 0⟩ (fun rr_ M_5 H locs hq hP hS => ?_)
          obtain ⟨r_6, rfl, hw⟩ := hq
          refine lv_if_eq (tgt := 95) hx hb dX9_snows_66 (by decide) (fun c_7 => ?_) (fun c_7 => ?_)
          · have hw := hw.1 c_7
            refine lv_iload_n hx hb dX9_snows_95 rfl (lv_at hl 2 rfl) ?_
            exact W.iret hx hb hr (mw_end hP hSt hTb hS ⟨_, rfl, hw⟩) hS.2.2 dX9_snows_96
          · have hw := hw.2 c_7
            refine lv_aload_n hx hb dX9_snows_69 rfl (lv_at hl 0 rfl) ?_
            refine mw_get (ci := 9) (v := .ref (G.1 + (h + 1))) (C := RX9) (T := TX9) (N := 8) hx hb ht inX9 hown hSt hP kh (by decide) (mk9 kh) rfl 0 (by decide) (ht _ wf_RX9_10) rfl rfl dX9_snows_70 ?_
            refine mw_get (ci := 8) (v := .ref (G.1 + (h + 1 + 1))) (C := RX8) (T := TX8) (N := 4) hx hb ht inX8 hown hSt hP (ks9_0 kh) (by decide) (mk8 (ks9_0 kh)) rfl 0 (by decide) (ht _ wf_RX9_63) rfl rfl dX9_snows_73 ?_
            refine mw_get (ci := 1) (v := .ref (G.1 + (h + 1 + 1 + 11))) (C := RX1) (T := TX1) (N := 9) hx hb ht inX1 hown hSt hP (ks8_0 (ks9_0 kh)) (by decide) (mk1 (ks8_0 (ks9_0 kh))) rfl 2 (by decide) (ht _ wf_RX9_66) rfl rfl dX9_snows_76 ?_
            refine lv_iload_n hx hb dX9_snows_79 rfl (lv_at hl 2 rfl) ?_
            refine lv_aload_n hx hb dX9_snows_80 rfl (lv_at hl 1 rfl) ?_
            refine mw_get (ci := 6) (v := .ref (G.1 + (r2 + 1))) (C := RX6) (T := TX6) (N := 2) hx hb ht inX6 hown hSt hP kr2 (by decide) (mk6 kr2) rfl 0 (by decide) (ht _ wf_RX9_228) rfl rfl dX9_snows_81 ?_
            refine lv_iload_n hx hb dX9_snows_84 rfl (lv_at hl 2 rfl) ?_
            refine mw_V (As := [.int v3]) (rest := [.int v3, .ref (G.1 + (h + 1 + 1 + 11))]) (T := TX3) (N := 2) (n := 1) ⟨hx, hb, hml, hown, hts⟩ (so_X3_get l G (r2 + 1) v3 M_5 _ hw) wm_RX9_238 wi_yX3_get wv_yX3_get wn_RX3 wc_yX3_get (by decide) ⟨Nat.le_of_ble_eq_true rfl, Nat.le_of_ble_eq_true rfl⟩ ⟨rfl, rfl⟩ (ks6_0 kr2) (by decide) (mk3 (ks6_0 kr2)) rfl hSt hTb hP hS rfl hl.1 rfl (Nat.le_of_ble_eq_true rfl) dX9_snows_85 ⟨Nat.le_refl 0, Nat.le_refl 0⟩ (fun rr_ M_8 H locs hq hP hS => ?_)
            obtain ⟨r_9, rfl, hw⟩ := hq
            obtain ⟨c_10, hw⟩ := hw
            refine mw_iast hx hb hSt hP hS (ks1_2 (ks8_0 (ks9_0 kh))) (by rw [(ln1_2 (ks8_0 (ks9_0 kh)))]; exact c_10) dX9_snows_88 (fun M_11 H locs eM_11 hP hS => ?_)
            have hw := hw M_11 eM_11
            obtain ⟨x_12, ex_12⟩ : ∃ z : Int32, z = v3 + 1 := ⟨_, rfl⟩
            have hw := hw x_12 ex_12
            refine lv_iinc (v := x_12) (lv' := [(3, .int x_12), (0, .ref (G.1 + h)), (2, .ref (G.1 + r2))]) hx hb dX9_snows_89 hl (k := 2) rfl (by rw [ex_12]; rfl) (by decide) rfl (fun ls hl => ?_)
            refine lv_goto (tgt := 35) hx hb dX9_snows_92 (by decide) ?_
            exact ih35 x_12 M_11 _ _ _ hw hP hS (lv_sub hl [1, 2, 0] rfl)
  refine lv_iload_n hx hb dX9_snows_0 rfl (lv_at hl 1 rfl) ?_
  refine mw_Sx (As := [.int a1]) (rest := []) (n := 1) ⟨hx, hb, hml, hown, hts⟩ (so_X9_isSheet l G a1 M _ hw) wm_RX9_221 wt_yX9_isSheet wn_RX9 wc_yX9_isSheet (by decide) ⟨Nat.le_of_ble_eq_true rfl, Nat.le_of_ble_eq_true rfl⟩ ⟨rfl, rfl⟩ hSt hTb hP hS rfl hl.1 rfl (Nat.le_of_ble_eq_true rfl) dX9_snows_1 ⟨Nat.le_refl 0, Nat.le_refl 0⟩ (fun rr_ M_13 H locs hq hP hS => ?_)
  obtain ⟨r_14, rfl, hw⟩ := hq
  refine lv_if_ne (tgt := 13) hx hb dX9_snows_4 (by decide) (fun c_15 => ?_) (fun c_15 => ?_)
  · have hw := hw.1 c_15
    refine lv_aload_n hx hb dX9_snows_13 rfl (lv_at hl 0 rfl) ?_
    refine mw_get (ci := 9) (v := .ref (G.1 + (h + 106))) (C := RX9) (T := TX9) (N := 8) hx hb ht inX9 hown hSt hP kh (by decide) (mk9 kh) rfl 5 (by decide) (ht _ wf_RX9_42) rfl rfl dX9_snows_14 ?_
    refine lv_iload_n hx hb dX9_snows_17 rfl (lv_at hl 1 rfl) ?_
    obtain ⟨c_16, hw⟩ := hw
    refine mw_aald14 hx hb hSt hP (ks9_5 kh) (by rw [(ln9_5 kh)]; exact c_16) dX9_snows_18 ?_
    obtain ⟨q_17, eq_17⟩ : ∃ z, z = h + 106 + 2 + 3 * a1.toNatClampNeg := ⟨_, rfl⟩
    have hw := hw q_17 eq_17
    have kq_17 : kdT q_17 = 6 := by rw [eq_17]; exact (ke14 (ks9_5 kh) (vp_lt (by rw [(ln9_5 kh)]; exact c_16)))
    rw [← eq_17]
    refine lv_astore_n (lv' := [(2, .ref (G.1 + q_17)), (0, .ref (G.1 + h)), (1, .int a1)]) hx hb dX9_snows_19 rfl hl (by decide) rfl (fun ls hl => ?_)
    refine lv_aload_n hx hb dX9_snows_20 rfl (lv_at hl 0 rfl) ?_
    refine mw_V (As := []) (rest := []) (T := TX6) (N := 2) (n := 0) ⟨hx, hb, hml, hown, hts⟩ (so_X6_isMissing l G q_17 M_13 _ hw) wm_RX9_224 wi_yX6_isMissing wv_yX6_isMissing wn_RX6 wc_yX6_isMissing (by decide) ⟨Nat.le_of_ble_eq_true rfl, Nat.le_of_ble_eq_true rfl⟩ ⟨rfl, rfl⟩ kq_17 (by decide) (mk6 kq_17) rfl hSt hTb hP hS rfl hl.1 rfl (Nat.le_of_ble_eq_true rfl) dX9_snows_21 ⟨Nat.le_refl 0, Nat.le_refl 0⟩ (fun rr_ M_18 H locs hq hP hS => ?_)
    obtain ⟨r_19, rfl, hw⟩ := hq
    refine lv_if_eq (tgt := 33) hx hb dX9_snows_24 (by decide) (fun c_20 => ?_) (fun c_20 => ?_)
    · have hw := hw.1 c_20
      refine lv_iconst (v := 0) hx hb dX9_snows_33 (by decide) ?_
      refine lv_istore_n (lv' := [(3, .int 0), (2, .ref (G.1 + q_17)), (0, .ref (G.1 + h)), (1, .int a1)]) hx hb dX9_snows_34 rfl hl (by decide) rfl (fun ls hl => ?_)
      obtain ⟨n_, hw⟩ := hw
      exact L_35 q_17 kq_17 n_ 0 M_18 _ _ _ hw hP hS (lv_sub hl [2, 1, 0] rfl)
    · have hw := hw.2 c_20
      refine lv_aload_n hx hb dX9_snows_27 rfl (lv_at hl 1 rfl) ?_
      refine lv_iconst (v := 2) hx hb dX9_snows_28 (by decide) ?_
      refine mw_V (As := [.int 2]) (rest := []) (T := TX9) (N := 8) (n := 1) ⟨hx, hb, hml, hown, hts⟩ (so_X9_refuse l G h 2 M_18 _ hw) wm_RX9_59 wi_yX9_refuse wv_yX9_refuse wn_RX9 wc_yX9_refuse (by decide) ⟨Nat.le_of_ble_eq_true rfl, Nat.le_of_ble_eq_true rfl⟩ ⟨rfl, rfl⟩ kh (by decide) (mk9 kh) rfl hSt hTb hP hS rfl hl.1 rfl (Nat.le_of_ble_eq_true rfl) dX9_snows_29 ⟨Nat.le_refl 0, Nat.le_refl 0⟩ (fun rr_ M_21 H locs hq hP hS => ?_)
      obtain ⟨r_22, rfl, hw⟩ := hq
      exact W.iret hx hb hr (mw_end hP hSt hTb hS ⟨_, rfl, hw⟩) hS.2.2 dX9_snows_32
  · have hw := hw.2 c_15
    refine lv_aload_n hx hb dX9_snows_7 rfl (lv_at hl 0 rfl) ?_
    refine lv_iconst (v := 1) hx hb dX9_snows_8 (by decide) ?_
    refine mw_V (As := [.int 1]) (rest := []) (T := TX9) (N := 8) (n := 1) ⟨hx, hb, hml, hown, hts⟩ (so_X9_refuse l G h 1 M_13 _ hw) wm_RX9_59 wi_yX9_refuse wv_yX9_refuse wn_RX9 wc_yX9_refuse (by decide) ⟨Nat.le_of_ble_eq_true rfl, Nat.le_of_ble_eq_true rfl⟩ ⟨rfl, rfl⟩ kh (by decide) (mk9 kh) rfl hSt hTb hP hS rfl hl.1 rfl (Nat.le_of_ble_eq_true rfl) dX9_snows_9 ⟨Nat.le_refl 0, Nat.le_refl 0⟩ (fun rr_ M_23 H locs hq hP hS => ?_)
    obtain ⟨r_24, rfl, hw⟩ := hq
    exact W.iret hx hb hr (mw_end hP hSt hTb hS ⟨_, rfl, hw⟩) hS.2.2 dX9_snows_12
def B_X9_judge_62 (h : Nat) (Q : Int32 → Mem → Prop) (r2 : Nat) (v3 : Int32) (K62 : Int32 → Mem → Prop) (v4 : Int32) (M : Mem) : Prop :=
  (v3 ≤ v4 → (¬ (M r2 1) = (M (h + 1 + 1) 7) → Q v3 M) ∧ ((M r2 1) = (M (h + 1 + 1) 7) → Q (-1) M)) ∧ (¬ v3 ≤ v4 → wp_X3_get r2 v4 M (fun r_4 M_3 => vp_in v4 7 ∧ ((r_4 = (M_3 (h + 1 + 1 + 13 + 9 + v4.toNatClampNeg) 3) → ∀ x_7 : Int32, x_7 = v4 + 1 → K62 x_7 M_3) ∧ (¬ r_4 = (M_3 (h + 1 + 1 + 13 + 9 + v4.toNatClampNeg) 3) → Q v4 M_3))))
def l_X9_judge_62 (h : Nat) (Q : Int32 → Mem → Prop) (r2 : Nat) (v3 : Int32) : Nat → Int32 → Mem → Prop
  | 0 => fun _ _ => False
  | n + 1 => B_X9_judge_62 h Q r2 v3 (l_X9_judge_62 h Q r2 v3 n)
def wp_X9_judge (h : Nat) (a1 : Int32) (M : Mem) (Q : Int32 → Mem → Prop) : Prop :=
  kdT h = 9 ∧ (wp_X9_isSheet a1 M (fun r_9 M_8 => (¬ r_9 = 0 → vp_in a1 4 ∧ (∀ q_12, q_12 = (h + 106 + 2 + 3 * a1.toNatClampNeg) + 1 → vp_in a1 4 ∧ (wp_X6_isMissing (h + 106 + 2 + 3 * a1.toNatClampNeg) M_8 (fun r_15 M_14 => (r_15 = 0 → ∀ x_17, x_17 = imn (M_14 q_12 1) (M_14 (h + 1 + 1) 7) → ∃ n, l_X9_judge_62 h Q q_12 x_17 n 0 M_14) ∧ (¬ r_15 = 0 → wp_X9_refuse h 2 M_14 (fun r_19 M_18 => Q r_19 M_18)))))) ∧ (r_9 = 0 → wp_X9_refuse h 1 M_8 (fun r_21 M_20 => Q r_21 M_20))))
set_option maxHeartbeats 4000000 in
set_option maxRecDepth 100000 in
theorem so_X9_judge (l : Launch) (G : Gm) (h : Nat) (a1 : Int32) (M : Mem) (Q : Int32 → Mem → Prop) (hw : wp_X9_judge h a1 M Q) : Ct l G yX9_judge cX9_judge 5 (some .int) ({ frames := 2, cells := 0, slots := 0, locals := 60 } : Room) [.ref (G.1 + h), .int a1] M (Qi Q) := by
  unfold wp_X9_judge at hw
  obtain ⟨kh, hw⟩ := hw
  refine ct_of (by decide) (Nat.le_of_ble_eq_true rfl) ?_
  intro p e s m below meth c E_ ls H hl hP hS
  obtain ⟨hx, hb, hml, hown, hts, ht, hr, hlocks, hSt, hTb⟩ := E_
  have hl : lv_has ls 5 [(0, .ref (G.1 + h)), (1, .int a1)] := hl
  have L_62 : ∀ (r2 : Nat) (v3 : Int32), kdT r2 = 3 → ∀ (n62 : Nat) (v4 : Int32) (M : Mem) (H : Heap) (locs : List Loc) (ls : Array Slot), l_X9_judge_62 h Q r2 v3 n62 v4 M → va_P G.2.1 clsA (wl G M) H → va_S (inW G) s.heap H locs → lv_has ls 5 [(0, .ref (G.1 + h)), (2, .ref (G.1 + r2)), (3, .int v3), (4, .int v4)] → W p l e ({ frames := 2, cells := 0, slots := 0, locals := 60 } : Room) s m ([.ref (G.1 + h), .int a1] : List Value).toArray below meth c H locs 0 0 (MQ below (Pq G (Qi Q)) ([.ref (G.1 + h), .int a1] : List Value).toArray s 0 0 (inW G)) (F0 m 62 ls []) := by
    intro r2 v3 kr2 n62
    induction n62 with
    | zero => intro v4 M H locs ls  hw hP hS hl; exact False.elim hw
    | succ n62 ih62 =>
      intro v4 M H locs ls  hw hP hS hl
      have hw : B_X9_judge_62 h Q r2 v3 (l_X9_judge_62 h Q r2 v3 n62) v4 M := hw
      unfold B_X9_judge_62 at hw
      refine lv_iload hx hb dX9_judge_62 (lv_at hl 3 rfl) ?_
      refine lv_iload_n hx hb dX9_judge_64 rfl (lv_at hl 2 rfl) ?_
      refine lv_icmp_ge (tgt := 102) hx hb dX9_judge_65 (by decide) (fun c_1 => ?_) (fun c_1 => ?_)
      · have hw := hw.1 c_1
        refine lv_aload_n hx hb dX9_judge_102 rfl (lv_at hl 1 rfl) ?_
        refine mw_get (ci := 3) (v := .int (M r2 1)) (C := RX3) (T := TX3) (N := 2) hx hb ht inX3 hown hSt hP kr2 (by decide) (mk3 kr2) rfl 1 (by decide) (ht _ wf_RX9_153) rfl rfl dX9_judge_103 ?_
        refine lv_aload_n hx hb dX9_judge_106 rfl (lv_at hl 0 rfl) ?_
        refine mw_get (ci := 9) (v := .ref (G.1 + (h + 1))) (C := RX9) (T := TX9) (N := 8) hx hb ht inX9 hown hSt hP kh (by decide) (mk9 kh) rfl 0 (by decide) (ht _ wf_RX9_10) rfl rfl dX9_judge_107 ?_
        refine mw_get (ci := 8) (v := .ref (G.1 + (h + 1 + 1))) (C := RX8) (T := TX8) (N := 4) hx hb ht inX8 hown hSt hP (ks9_0 kh) (by decide) (mk8 (ks9_0 kh)) rfl 0 (by decide) (ht _ wf_RX9_63) rfl rfl dX9_judge_110 ?_
        refine mw_get (ci := 1) (v := .int (M (h + 1 + 1) 7)) (C := RX1) (T := TX1) (N := 9) hx hb ht inX1 hown hSt hP (ks8_0 (ks9_0 kh)) (by decide) (mk1 (ks8_0 (ks9_0 kh))) rfl 7 (by decide) (ht _ wf_RX9_103) rfl rfl dX9_judge_113 ?_
        refine lv_icmp_ne (tgt := 123) hx hb dX9_judge_116 (by decide) (fun c_2 => ?_) (fun c_2 => ?_)
        · have hw := hw.1 c_2
          refine lv_iload_n hx hb dX9_judge_123 rfl (lv_at hl 2 rfl) ?_
          exact W.iret hx hb hr (mw_end hP hSt hTb hS ⟨_, rfl, hw⟩) hS.2.2 dX9_judge_124
        · have hw := hw.2 c_2
          refine lv_iconst (v := (-1)) hx hb dX9_judge_119 (by decide) ?_
          refine lv_goto (tgt := 124) hx hb dX9_judge_120 (by decide) ?_
          exact W.iret hx hb hr (mw_end hP hSt hTb hS ⟨_, rfl, hw⟩) hS.2.2 dX9_judge_124
      · have hw := hw.2 c_1
        refine lv_aload_n hx hb dX9_judge_68 rfl (lv_at hl 1 rfl) ?_
        refine lv_iload hx hb dX9_judge_69 (lv_at hl 3 rfl) ?_
        refine mw_V (As := [.int v4]) (rest := []) (T := TX3) (N := 2) (n := 1) ⟨hx, hb, hml, hown, hts⟩ (so_X3_get l G r2 v4 M _ hw) wm_RX9_238 wi_yX3_get wv_yX3_get wn_RX3 wc_yX3_get (by decide) ⟨Nat.le_of_ble_eq_true rfl, Nat.le_of_ble_eq_true rfl⟩ ⟨rfl, rfl⟩ kr2 (by decide) (mk3 kr2) rfl hSt hTb hP hS rfl hl.1 rfl (Nat.le_of_ble_eq_true rfl) dX9_judge_71 ⟨Nat.le_refl 0, Nat.le_refl 0⟩ (fun rr_ M_3 H locs hq hP hS => ?_)
        obtain ⟨r_4, rfl, hw⟩ := hq
        refine lv_aload_n hx hb dX9_judge_74 rfl (lv_at hl 0 rfl) ?_
        refine mw_get (ci := 9) (v := .ref (G.1 + (h + 1))) (C := RX9) (T := TX9) (N := 8) hx hb ht inX9 hown hSt hP kh (by decide) (mk9 kh) rfl 0 (by decide) (ht _ wf_RX9_10) rfl rfl dX9_judge_75 ?_
        refine mw_get (ci := 8) (v := .ref (G.1 + (h + 1 + 1))) (C := RX8) (T := TX8) (N := 4) hx hb ht inX8 hown hSt hP (ks9_0 kh) (by decide) (mk8 (ks9_0 kh)) rfl 0 (by decide) (ht _ wf_RX9_63) rfl rfl dX9_judge_78 ?_
        refine mw_get (ci := 1) (v := .ref (G.1 + (h + 1 + 1 + 13))) (C := RX1) (T := TX1) (N := 9) hx hb ht inX1 hown hSt hP (ks8_0 (ks9_0 kh)) (by decide) (mk1 (ks8_0 (ks9_0 kh))) rfl 4 (by decide) (ht _ wf_RX9_106) rfl rfl dX9_judge_81 ?_
        refine lv_iload hx hb dX9_judge_84 (lv_at hl 3 rfl) ?_
        obtain ⟨c_5, hw⟩ := hw
        refine mw_aald13 hx hb hSt hP (ks1_4 (ks8_0 (ks9_0 kh))) (by rw [(ln1_4 (ks8_0 (ks9_0 kh)))]; exact c_5) dX9_judge_86 ?_
        refine mw_get (ci := 5) (v := .int (M_3 (h + 1 + 1 + 13 + 9 + v4.toNatClampNeg) 3)) (C := RX5) (T := TX5) (N := 6) hx hb ht inX5 hown hSt hP (ke13 (ks1_4 (ks8_0 (ks9_0 kh))) (vp_lt (by rw [(ln1_4 (ks8_0 (ks9_0 kh)))]; exact c_5))) (by decide) (mk5 (ke13 (ks1_4 (ks8_0 (ks9_0 kh))) (vp_lt (by rw [(ln1_4 (ks8_0 (ks9_0 kh)))]; exact c_5)))) rfl 3 (by decide) (ht _ wf_RX9_121) rfl rfl dX9_judge_87 ?_
        refine lv_icmp_eq (tgt := 96) hx hb dX9_judge_90 (by decide) (fun c_6 => ?_) (fun c_6 => ?_)
        · have hw := hw.1 c_6
          obtain ⟨x_7, ex_7⟩ : ∃ z : Int32, z = v4 + 1 := ⟨_, rfl⟩
          have hw := hw x_7 ex_7
          refine lv_iinc (v := x_7) (lv' := [(4, .int x_7), (0, .ref (G.1 + h)), (2, .ref (G.1 + r2)), (3, .int v3)]) hx hb dX9_judge_96 hl (k := 3) rfl (by rw [ex_7]; rfl) (by decide) rfl (fun ls hl => ?_)
          refine lv_goto (tgt := 62) hx hb dX9_judge_99 (by decide) ?_
          exact ih62 x_7 M_3 _ _ _ hw hP hS (lv_sub hl [1, 2, 3, 0] rfl)
        · have hw := hw.2 c_6
          refine lv_iload hx hb dX9_judge_93 (lv_at hl 3 rfl) ?_
          exact W.iret hx hb hr (mw_end hP hSt hTb hS ⟨_, rfl, hw⟩) hS.2.2 dX9_judge_95
  refine lv_iload_n hx hb dX9_judge_0 rfl (lv_at hl 1 rfl) ?_
  refine mw_Sx (As := [.int a1]) (rest := []) (n := 1) ⟨hx, hb, hml, hown, hts⟩ (so_X9_isSheet l G a1 M _ hw) wm_RX9_221 wt_yX9_isSheet wn_RX9 wc_yX9_isSheet (by decide) ⟨Nat.le_of_ble_eq_true rfl, Nat.le_of_ble_eq_true rfl⟩ ⟨rfl, rfl⟩ hSt hTb hP hS rfl hl.1 rfl (Nat.le_of_ble_eq_true rfl) dX9_judge_1 ⟨Nat.le_refl 0, Nat.le_refl 0⟩ (fun rr_ M_8 H locs hq hP hS => ?_)
  obtain ⟨r_9, rfl, hw⟩ := hq
  refine lv_if_ne (tgt := 13) hx hb dX9_judge_4 (by decide) (fun c_10 => ?_) (fun c_10 => ?_)
  · have hw := hw.1 c_10
    refine lv_aload_n hx hb dX9_judge_13 rfl (lv_at hl 0 rfl) ?_
    refine mw_get (ci := 9) (v := .ref (G.1 + (h + 106))) (C := RX9) (T := TX9) (N := 8) hx hb ht inX9 hown hSt hP kh (by decide) (mk9 kh) rfl 5 (by decide) (ht _ wf_RX9_42) rfl rfl dX9_judge_14 ?_
    refine lv_iload_n hx hb dX9_judge_17 rfl (lv_at hl 1 rfl) ?_
    obtain ⟨c_11, hw⟩ := hw
    refine mw_aald14 hx hb hSt hP (ks9_5 kh) (by rw [(ln9_5 kh)]; exact c_11) dX9_judge_18 ?_
    refine mw_get (ci := 6) (v := .ref (G.1 + ((h + 106 + 2 + 3 * a1.toNatClampNeg) + 1))) (C := RX6) (T := TX6) (N := 2) hx hb ht inX6 hown hSt hP (ke14 (ks9_5 kh) (vp_lt (by rw [(ln9_5 kh)]; exact c_11))) (by decide) (mk6 (ke14 (ks9_5 kh) (vp_lt (by rw [(ln9_5 kh)]; exact c_11)))) rfl 0 (by decide) (ht _ wf_RX9_228) rfl rfl dX9_judge_19 ?_
    obtain ⟨q_12, eq_12⟩ : ∃ z, z = (h + 106 + 2 + 3 * a1.toNatClampNeg) + 1 := ⟨_, rfl⟩
    have hw := hw q_12 eq_12
    have kq_12 : kdT q_12 = 3 := by rw [eq_12]; exact (ks6_0 (ke14 (ks9_5 kh) (vp_lt (by rw [(ln9_5 kh)]; exact c_11))))
    rw [← eq_12]
    refine lv_astore_n (lv' := [(2, .ref (G.1 + q_12)), (0, .ref (G.1 + h)), (1, .int a1)]) hx hb dX9_judge_22 rfl hl (by decide) rfl (fun ls hl => ?_)
    refine lv_aload_n hx hb dX9_judge_23 rfl (lv_at hl 1 rfl) ?_
    refine mw_get (ci := 9) (v := .ref (G.1 + (h + 106))) (C := RX9) (T := TX9) (N := 8) hx hb ht inX9 hown hSt hP kh (by decide) (mk9 kh) rfl 5 (by decide) (ht _ wf_RX9_42) rfl rfl dX9_judge_24 ?_
    refine lv_iload_n hx hb dX9_judge_27 rfl (lv_at hl 2 rfl) ?_
    obtain ⟨c_13, hw⟩ := hw
    refine mw_aald14 hx hb hSt hP (ks9_5 kh) (by rw [(ln9_5 kh)]; exact c_13) dX9_judge_28 ?_
    refine mw_V (As := []) (rest := []) (T := TX6) (N := 2) (n := 0) ⟨hx, hb, hml, hown, hts⟩ (so_X6_isMissing l G (h + 106 + 2 + 3 * a1.toNatClampNeg) M_8 _ hw) wm_RX9_224 wi_yX6_isMissing wv_yX6_isMissing wn_RX6 wc_yX6_isMissing (by decide) ⟨Nat.le_of_ble_eq_true rfl, Nat.le_of_ble_eq_true rfl⟩ ⟨rfl, rfl⟩ (ke14 (ks9_5 kh) (vp_lt (by rw [(ln9_5 kh)]; exact c_13))) (by decide) (mk6 (ke14 (ks9_5 kh) (vp_lt (by rw [(ln9_5 kh)]; exact c_13)))) rfl hSt hTb hP hS rfl hl.1 rfl (Nat.le_of_ble_eq_true rfl) dX9_judge_29 ⟨Nat.le_refl 0, Nat.le_refl 0⟩ (fun rr_ M_14 H locs hq hP hS => ?_)
    obtain ⟨r_15, rfl, hw⟩ := hq
    refine lv_if_eq (tgt := 41) hx hb dX9_judge_32 (by decide) (fun c_16 => ?_) (fun c_16 => ?_)
    · have hw := hw.1 c_16
      refine lv_aload_n hx hb dX9_judge_41 rfl (lv_at hl 0 rfl) ?_
      refine mw_get (ci := 3) (v := .int (M_14 q_12 1)) (C := RX3) (T := TX3) (N := 2) hx hb ht inX3 hown hSt hP kq_12 (by decide) (mk3 kq_12) rfl 1 (by decide) (ht _ wf_RX9_153) rfl rfl dX9_judge_42 ?_
      refine lv_aload_n hx hb dX9_judge_45 rfl (lv_at hl 1 rfl) ?_
      refine mw_get (ci := 9) (v := .ref (G.1 + (h + 1))) (C := RX9) (T := TX9) (N := 8) hx hb ht inX9 hown hSt hP kh (by decide) (mk9 kh) rfl 0 (by decide) (ht _ wf_RX9_10) rfl rfl dX9_judge_46 ?_
      refine mw_get (ci := 8) (v := .ref (G.1 + (h + 1 + 1))) (C := RX8) (T := TX8) (N := 4) hx hb ht inX8 hown hSt hP (ks9_0 kh) (by decide) (mk8 (ks9_0 kh)) rfl 0 (by decide) (ht _ wf_RX9_63) rfl rfl dX9_judge_49 ?_
      refine mw_get (ci := 1) (v := .int (M_14 (h + 1 + 1) 7)) (C := RX1) (T := TX1) (N := 9) hx hb ht inX1 hown hSt hP (ks8_0 (ks9_0 kh)) (by decide) (mk1 (ks8_0 (ks9_0 kh))) rfl 7 (by decide) (ht _ wf_RX9_103) rfl rfl dX9_judge_52 ?_
      refine va_mmin (rest := []) hx hb (hml.trans hl.1.symm) hown (ht _ wm_RX9_277) (ht _ wt_yJ9_min_7cf53) (ht _ wn_RJ9) (ht _ wc_yJ9_min_7cf53) (Nat.le_of_ble_eq_true rfl) (Nat.le_of_ble_eq_true rfl) (Nat.zero_le _) (Nat.zero_le _) dX9_judge_55 ?_
      refine lv_topi (fun x_17 ex_17 => ?_)
      have hw := hw x_17 ex_17
      refine lv_istore_n (lv' := [(3, .int x_17), (2, .ref (G.1 + q_12)), (0, .ref (G.1 + h)), (1, .int a1)]) hx hb dX9_judge_58 rfl hl (by decide) rfl (fun ls hl => ?_)
      refine lv_iconst (v := 0) hx hb dX9_judge_59 (by decide) ?_
      refine lv_istore (lv' := [(4, .int 0), (3, .int x_17), (2, .ref (G.1 + q_12)), (0, .ref (G.1 + h)), (1, .int a1)]) hx hb dX9_judge_60 hl (by decide) rfl (fun ls hl => ?_)
      obtain ⟨n_, hw⟩ := hw
      exact L_62 q_12 x_17 kq_12 n_ 0 M_14 _ _ _ hw hP hS (lv_sub hl [3, 2, 1, 0] rfl)
    · have hw := hw.2 c_16
      refine lv_aload_n hx hb dX9_judge_35 rfl (lv_at hl 1 rfl) ?_
      refine lv_iconst (v := 2) hx hb dX9_judge_36 (by decide) ?_
      refine mw_V (As := [.int 2]) (rest := []) (T := TX9) (N := 8) (n := 1) ⟨hx, hb, hml, hown, hts⟩ (so_X9_refuse l G h 2 M_14 _ hw) wm_RX9_59 wi_yX9_refuse wv_yX9_refuse wn_RX9 wc_yX9_refuse (by decide) ⟨Nat.le_of_ble_eq_true rfl, Nat.le_of_ble_eq_true rfl⟩ ⟨rfl, rfl⟩ kh (by decide) (mk9 kh) rfl hSt hTb hP hS rfl hl.1 rfl (Nat.le_of_ble_eq_true rfl) dX9_judge_37 ⟨Nat.le_refl 0, Nat.le_refl 0⟩ (fun rr_ M_18 H locs hq hP hS => ?_)
      obtain ⟨r_19, rfl, hw⟩ := hq
      exact W.iret hx hb hr (mw_end hP hSt hTb hS ⟨_, rfl, hw⟩) hS.2.2 dX9_judge_40
  · have hw := hw.2 c_10
    refine lv_aload_n hx hb dX9_judge_7 rfl (lv_at hl 0 rfl) ?_
    refine lv_iconst (v := 1) hx hb dX9_judge_8 (by decide) ?_
    refine mw_V (As := [.int 1]) (rest := []) (T := TX9) (N := 8) (n := 1) ⟨hx, hb, hml, hown, hts⟩ (so_X9_refuse l G h 1 M_8 _ hw) wm_RX9_59 wi_yX9_refuse wv_yX9_refuse wn_RX9 wc_yX9_refuse (by decide) ⟨Nat.le_of_ble_eq_true rfl, Nat.le_of_ble_eq_true rfl⟩ ⟨rfl, rfl⟩ kh (by decide) (mk9 kh) rfl hSt hTb hP hS rfl hl.1 rfl (Nat.le_of_ble_eq_true rfl) dX9_judge_9 ⟨Nat.le_refl 0, Nat.le_refl 0⟩ (fun rr_ M_20 H locs hq hP hS => ?_)
    obtain ⟨r_21, rfl, hw⟩ := hq
    exact W.iret hx hb hr (mw_end hP hSt hTb hS ⟨_, rfl, hw⟩) hS.2.2 dX9_judge_12
def wp_X9_image (h : Nat) (M : Mem) (Q : Int32 → Mem → Prop) : Prop :=
  kdT h = 9 ∧ (wp_X8_copyFrom (h + 35) (h + 1) M (fun M_1 => ∀ M_2, M_2 = mu M_1 h 7 ((M_1 h 7) + 1) → Q (M_2 h 7) M_2))
set_option maxHeartbeats 4000000 in
set_option maxRecDepth 100000 in
theorem so_X9_image (l : Launch) (G : Gm) (h : Nat) (M : Mem) (Q : Int32 → Mem → Prop) (hw : wp_X9_image h M Q) : Ct l G yX9_image cX9_image 1 (some .int) ({ frames := 4, cells := 0, slots := 0, locals := 124 } : Room) [.ref (G.1 + h)] M (Qi Q) := by
  unfold wp_X9_image at hw
  obtain ⟨kh, hw⟩ := hw
  refine ct_of (by decide) (Nat.le_of_ble_eq_true rfl) ?_
  intro p e s m below meth c E_ ls H hl hP hS
  obtain ⟨hx, hb, hml, hown, hts, ht, hr, hlocks, hSt, hTb⟩ := E_
  have hl : lv_has ls 1 [(0, .ref (G.1 + h))] := hl
  refine lv_aload_n hx hb dX9_image_0 rfl (lv_at hl 0 rfl) ?_
  refine mw_get (ci := 9) (v := .ref (G.1 + (h + 35))) (C := RX9) (T := TX9) (N := 8) hx hb ht inX9 hown hSt hP kh (by decide) (mk9 kh) rfl 1 (by decide) (ht _ wf_RX9_16) rfl rfl dX9_image_1 ?_
  refine lv_aload_n hx hb dX9_image_4 rfl (lv_at hl 0 rfl) ?_
  refine mw_get (ci := 9) (v := .ref (G.1 + (h + 1))) (C := RX9) (T := TX9) (N := 8) hx hb ht inX9 hown hSt hP kh (by decide) (mk9 kh) rfl 0 (by decide) (ht _ wf_RX9_10) rfl rfl dX9_image_5 ?_
  refine mw_V (As := [.ref (G.1 + (h + 1))]) (rest := []) (T := TX8) (N := 4) (n := 1) ⟨hx, hb, hml, hown, hts⟩ (so_X8_copyFrom l G (h + 35) (h + 1) M _ hw) wm_RX9_282 wi_yX8_copyFrom wv_yX8_copyFrom wn_RX8 wc_yX8_copyFrom (by decide) ⟨Nat.le_of_ble_eq_true rfl, Nat.le_of_ble_eq_true rfl⟩ ⟨rfl, rfl⟩ (ks9_1 kh) (by decide) (mk8 (ks9_1 kh)) rfl hSt hTb hP hS rfl hl.1 rfl (Nat.le_of_ble_eq_true rfl) dX9_image_8 ⟨Nat.le_refl 0, Nat.le_refl 0⟩ (fun rr_ M_1 H locs hq hP hS => ?_)
  obtain ⟨rfl, hw⟩ := hq
  refine lv_aload_n hx hb dX9_image_11 rfl (lv_at hl 0 rfl) ?_
  refine lv_dup hx hb dX9_image_12 rfl ?_
  refine mw_get (ci := 9) (v := .int (M_1 h 7)) (C := RX9) (T := TX9) (N := 8) hx hb ht inX9 hown hSt hP kh (by decide) (mk9 kh) rfl 7 (by decide) (ht _ wf_RX9_285) rfl rfl dX9_image_13 ?_
  refine lv_iconst (v := 1) hx hb dX9_image_16 (by decide) ?_
  refine lv_iadd hx hb dX9_image_17 ?_
  refine mw_put (ci := 9) (v := (M_1 h 7) + 1) (ty := .int) (C := RX9) (T := TX9) (N := 8) hx hb ht inX9 tyX9 tyX9_ok nmX9 hown hSt hP hS kh (by decide) (mk9 kh) rfl 7 (by decide) (ht _ wf_RX9_285) rfl rfl (by decide +kernel) (vp_nar_int _) rfl (Nat.le_of_ble_eq_true rfl) (by rw [mk9 kh]; simp [mu]) dX9_image_18 (fun M_2 H locs eM_2 hP hS => ?_)
  have hw := hw M_2 eM_2
  refine lv_aload_n hx hb dX9_image_21 rfl (lv_at hl 0 rfl) ?_
  refine mw_get (ci := 9) (v := .int (M_2 h 7)) (C := RX9) (T := TX9) (N := 8) hx hb ht inX9 hown hSt hP kh (by decide) (mk9 kh) rfl 7 (by decide) (ht _ wf_RX9_285) rfl rfl dX9_image_22 ?_
  exact W.iret hx hb hr (mw_end hP hSt hTb hS ⟨_, rfl, hw⟩) hS.2.2 dX9_image_25
def wp_X9_restore (h : Nat) (M : Mem) (Q : Int32 → Mem → Prop) : Prop :=
  kdT h = 9 ∧ ((¬ (M h 7) = 0 → wp_X8_copyFrom (h + 1) (h + 35) M (fun M_2 => Q (M_2 (h + 1 + 1) 8) M_2)) ∧ ((M h 7) = 0 → wp_X9_refuse h 2 M (fun r_4 M_3 => Q r_4 M_3)))
set_option maxHeartbeats 4000000 in
set_option maxRecDepth 100000 in
theorem so_X9_restore (l : Launch) (G : Gm) (h : Nat) (M : Mem) (Q : Int32 → Mem → Prop) (hw : wp_X9_restore h M Q) : Ct l G yX9_restore cX9_restore 1 (some .int) ({ frames := 4, cells := 0, slots := 0, locals := 124 } : Room) [.ref (G.1 + h)] M (Qi Q) := by
  unfold wp_X9_restore at hw
  obtain ⟨kh, hw⟩ := hw
  refine ct_of (by decide) (Nat.le_of_ble_eq_true rfl) ?_
  intro p e s m below meth c E_ ls H hl hP hS
  obtain ⟨hx, hb, hml, hown, hts, ht, hr, hlocks, hSt, hTb⟩ := E_
  have hl : lv_has ls 1 [(0, .ref (G.1 + h))] := hl
  refine lv_aload_n hx hb dX9_restore_0 rfl (lv_at hl 0 rfl) ?_
  refine mw_get (ci := 9) (v := .int (M h 7)) (C := RX9) (T := TX9) (N := 8) hx hb ht inX9 hown hSt hP kh (by decide) (mk9 kh) rfl 7 (by decide) (ht _ wf_RX9_285) rfl rfl dX9_restore_1 ?_
  refine lv_if_ne (tgt := 13) hx hb dX9_restore_4 (by decide) (fun c_1 => ?_) (fun c_1 => ?_)
  · have hw := hw.1 c_1
    refine lv_aload_n hx hb dX9_restore_13 rfl (lv_at hl 0 rfl) ?_
    refine mw_get (ci := 9) (v := .ref (G.1 + (h + 1))) (C := RX9) (T := TX9) (N := 8) hx hb ht inX9 hown hSt hP kh (by decide) (mk9 kh) rfl 0 (by decide) (ht _ wf_RX9_10) rfl rfl dX9_restore_14 ?_
    refine lv_aload_n hx hb dX9_restore_17 rfl (lv_at hl 0 rfl) ?_
    refine mw_get (ci := 9) (v := .ref (G.1 + (h + 35))) (C := RX9) (T := TX9) (N := 8) hx hb ht inX9 hown hSt hP kh (by decide) (mk9 kh) rfl 1 (by decide) (ht _ wf_RX9_16) rfl rfl dX9_restore_18 ?_
    refine mw_V (As := [.ref (G.1 + (h + 35))]) (rest := []) (T := TX8) (N := 4) (n := 1) ⟨hx, hb, hml, hown, hts⟩ (so_X8_copyFrom l G (h + 1) (h + 35) M _ hw) wm_RX9_282 wi_yX8_copyFrom wv_yX8_copyFrom wn_RX8 wc_yX8_copyFrom (by decide) ⟨Nat.le_of_ble_eq_true rfl, Nat.le_of_ble_eq_true rfl⟩ ⟨rfl, rfl⟩ (ks9_0 kh) (by decide) (mk8 (ks9_0 kh)) rfl hSt hTb hP hS rfl hl.1 rfl (Nat.le_of_ble_eq_true rfl) dX9_restore_21 ⟨Nat.le_refl 0, Nat.le_refl 0⟩ (fun rr_ M_2 H locs hq hP hS => ?_)
    obtain ⟨rfl, hw⟩ := hq
    refine lv_aload_n hx hb dX9_restore_24 rfl (lv_at hl 0 rfl) ?_
    refine mw_get (ci := 9) (v := .ref (G.1 + (h + 1))) (C := RX9) (T := TX9) (N := 8) hx hb ht inX9 hown hSt hP kh (by decide) (mk9 kh) rfl 0 (by decide) (ht _ wf_RX9_10) rfl rfl dX9_restore_25 ?_
    refine mw_get (ci := 8) (v := .ref (G.1 + (h + 1 + 1))) (C := RX8) (T := TX8) (N := 4) hx hb ht inX8 hown hSt hP (ks9_0 kh) (by decide) (mk8 (ks9_0 kh)) rfl 0 (by decide) (ht _ wf_RX9_63) rfl rfl dX9_restore_28 ?_
    refine mw_get (ci := 1) (v := .int (M_2 (h + 1 + 1) 8)) (C := RX1) (T := TX1) (N := 9) hx hb ht inX1 hown hSt hP (ks8_0 (ks9_0 kh)) (by decide) (mk1 (ks8_0 (ks9_0 kh))) rfl 8 (by decide) (ht _ wf_RX9_134) rfl rfl dX9_restore_31 ?_
    exact W.iret hx hb hr (mw_end hP hSt hTb hS ⟨_, rfl, hw⟩) hS.2.2 dX9_restore_34
  · have hw := hw.2 c_1
    refine lv_aload_n hx hb dX9_restore_7 rfl (lv_at hl 0 rfl) ?_
    refine lv_iconst (v := 2) hx hb dX9_restore_8 (by decide) ?_
    refine mw_V (As := [.int 2]) (rest := []) (T := TX9) (N := 8) (n := 1) ⟨hx, hb, hml, hown, hts⟩ (so_X9_refuse l G h 2 M _ hw) wm_RX9_59 wi_yX9_refuse wv_yX9_refuse wn_RX9 wc_yX9_refuse (by decide) ⟨Nat.le_of_ble_eq_true rfl, Nat.le_of_ble_eq_true rfl⟩ ⟨rfl, rfl⟩ kh (by decide) (mk9 kh) rfl hSt hTb hP hS rfl hl.1 rfl (Nat.le_of_ble_eq_true rfl) dX9_restore_9 ⟨Nat.le_refl 0, Nat.le_refl 0⟩ (fun rr_ M_3 H locs hq hP hS => ?_)
    obtain ⟨r_4, rfl, hw⟩ := hq
    exact W.iret hx hb hr (mw_end hP hSt hTb hS ⟨_, rfl, hw⟩) hS.2.2 dX9_restore_12
def wp_X9_tell (h : Nat) (a1 : Int32) (M : Mem) (Q : Int32 → Mem → Prop) : Prop :=
  kdT h = 9 ∧ (wp_X3_append (h + 1 + 32) a1 M (fun r_2 M_1 => (r_2 = 0 → wp_X9_refuse h 4 M_1 (fun r_5 M_4 => Q r_5 M_4)) ∧ (¬ r_2 = 0 → Q (M_1 (h + 1 + 32) 1) M_1)))
set_option maxHeartbeats 4000000 in
set_option maxRecDepth 100000 in
theorem so_X9_tell (l : Launch) (G : Gm) (h : Nat) (a1 : Int32) (M : Mem) (Q : Int32 → Mem → Prop) (hw : wp_X9_tell h a1 M Q) : Ct l G yX9_tell cX9_tell 2 (some .int) ({ frames := 1, cells := 0, slots := 0, locals := 21 } : Room) [.ref (G.1 + h), .int a1] M (Qi Q) := by
  unfold wp_X9_tell at hw
  obtain ⟨kh, hw⟩ := hw
  refine ct_of (by decide) (Nat.le_of_ble_eq_true rfl) ?_
  intro p e s m below meth c E_ ls H hl hP hS
  obtain ⟨hx, hb, hml, hown, hts, ht, hr, hlocks, hSt, hTb⟩ := E_
  have hl : lv_has ls 2 [(0, .ref (G.1 + h)), (1, .int a1)] := hl
  refine lv_aload_n hx hb dX9_tell_0 rfl (lv_at hl 0 rfl) ?_
  refine mw_get (ci := 9) (v := .ref (G.1 + (h + 1))) (C := RX9) (T := TX9) (N := 8) hx hb ht inX9 hown hSt hP kh (by decide) (mk9 kh) rfl 0 (by decide) (ht _ wf_RX9_10) rfl rfl dX9_tell_1 ?_
  refine mw_get (ci := 8) (v := .ref (G.1 + (h + 1 + 32))) (C := RX8) (T := TX8) (N := 4) hx hb ht inX8 hown hSt hP (ks9_0 kh) (by decide) (mk8 (ks9_0 kh)) rfl 2 (by decide) (ht _ wf_RX9_288) rfl rfl dX9_tell_4 ?_
  refine lv_iload_n hx hb dX9_tell_7 rfl (lv_at hl 1 rfl) ?_
  refine mw_V (As := [.int a1]) (rest := []) (T := TX3) (N := 2) (n := 1) ⟨hx, hb, hml, hown, hts⟩ (so_X3_append l G (h + 1 + 32) a1 M _ hw) wm_RX9_158 wi_yX3_append wv_yX3_append wn_RX3 wc_yX3_append (by decide) ⟨Nat.le_of_ble_eq_true rfl, Nat.le_of_ble_eq_true rfl⟩ ⟨rfl, rfl⟩ (ks8_2 (ks9_0 kh)) (by decide) (mk3 (ks8_2 (ks9_0 kh))) rfl hSt hTb hP hS rfl hl.1 rfl (Nat.le_of_ble_eq_true rfl) dX9_tell_8 ⟨Nat.le_refl 0, Nat.le_refl 0⟩ (fun rr_ M_1 H locs hq hP hS => ?_)
  obtain ⟨r_2, rfl, hw⟩ := hq
  refine lv_if_eq (tgt := 27) hx hb dX9_tell_11 (by decide) (fun c_3 => ?_) (fun c_3 => ?_)
  · have hw := hw.1 c_3
    refine lv_aload_n hx hb dX9_tell_27 rfl (lv_at hl 0 rfl) ?_
    refine lv_iconst (v := 4) hx hb dX9_tell_28 (by decide) ?_
    refine mw_V (As := [.int 4]) (rest := []) (T := TX9) (N := 8) (n := 1) ⟨hx, hb, hml, hown, hts⟩ (so_X9_refuse l G h 4 M_1 _ hw) wm_RX9_59 wi_yX9_refuse wv_yX9_refuse wn_RX9 wc_yX9_refuse (by decide) ⟨Nat.le_of_ble_eq_true rfl, Nat.le_of_ble_eq_true rfl⟩ ⟨rfl, rfl⟩ kh (by decide) (mk9 kh) rfl hSt hTb hP hS rfl hl.1 rfl (Nat.le_of_ble_eq_true rfl) dX9_tell_29 ⟨Nat.le_refl 0, Nat.le_refl 0⟩ (fun rr_ M_4 H locs hq hP hS => ?_)
    obtain ⟨r_5, rfl, hw⟩ := hq
    exact W.iret hx hb hr (mw_end hP hSt hTb hS ⟨_, rfl, hw⟩) hS.2.2 dX9_tell_32
  · have hw := hw.2 c_3
    refine lv_aload_n hx hb dX9_tell_14 rfl (lv_at hl 0 rfl) ?_
    refine mw_get (ci := 9) (v := .ref (G.1 + (h + 1))) (C := RX9) (T := TX9) (N := 8) hx hb ht inX9 hown hSt hP kh (by decide) (mk9 kh) rfl 0 (by decide) (ht _ wf_RX9_10) rfl rfl dX9_tell_15 ?_
    refine mw_get (ci := 8) (v := .ref (G.1 + (h + 1 + 32))) (C := RX8) (T := TX8) (N := 4) hx hb ht inX8 hown hSt hP (ks9_0 kh) (by decide) (mk8 (ks9_0 kh)) rfl 2 (by decide) (ht _ wf_RX9_288) rfl rfl dX9_tell_18 ?_
    refine mw_get (ci := 3) (v := .int (M_1 (h + 1 + 32) 1)) (C := RX3) (T := TX3) (N := 2) hx hb ht inX3 hown hSt hP (ks8_2 (ks9_0 kh)) (by decide) (mk3 (ks8_2 (ks9_0 kh))) rfl 1 (by decide) (ht _ wf_RX9_153) rfl rfl dX9_tell_21 ?_
    refine lv_goto (tgt := 32) hx hb dX9_tell_24 (by decide) ?_
    exact W.iret hx hb hr (mw_end hP hSt hTb hS ⟨_, rfl, hw⟩) hS.2.2 dX9_tell_32
def b_X9_check_68 (h : Nat) (Q : Int32 → Mem → Prop) (v1 : Int32) (M : Mem) : Prop :=
  wp_X3_clear (h + 1 + 32) M (fun M_1 => Q v1 M_1)
def b_X9_check_62 (h : Nat) (Q : Int32 → Mem → Prop) (K8 : Int32 → Int32 → Mem → Prop) (v1 : Int32) (v2 : Int32) (M : Mem) : Prop :=
  ∀ x_2 : Int32, x_2 = v2 + 1 → K8 v1 x_2 M
def B_X9_check_8 (h : Nat) (Q : Int32 → Mem → Prop) (K8 : Int32 → Int32 → Mem → Prop) (v1 : Int32) (v2 : Int32) (M : Mem) : Prop :=
  ((M (h + 1 + 32) 1) ≤ v2 → b_X9_check_68 h Q v1 M) ∧ (¬ (M (h + 1 + 32) 1) ≤ v2 → (¬ v1 = 0 → b_X9_check_68 h Q v1 M) ∧ (v1 = 0 → wp_X1_passHours (h + 69) 1 M (fun M_5 => wp_X3_get (h + 1 + 32) v2 M_5 (fun r_7 M_6 => wp_X1_foundSet (h + 69) M_6 (fun r_9 M_8 => wp_J6_bitCount_0f7a4 r_9 M_8 (fun r_11 M_10 => (r_7 = r_11 → b_X9_check_62 h Q K8 v1 v2 M_10) ∧ (¬ r_7 = r_11 → ∀ x_13, x_13 = 1 + v2 → b_X9_check_62 h Q K8 x_13 v2 M_10)))))))
def l_X9_check_8 (h : Nat) (Q : Int32 → Mem → Prop) : Nat → Int32 → Int32 → Mem → Prop
  | 0 => fun _ _ _ => False
  | n + 1 => B_X9_check_8 h Q (l_X9_check_8 h Q n)
def wp_X9_check (h : Nat) (M : Mem) (Q : Int32 → Mem → Prop) : Prop :=
  kdT h = 9 ∧ (wp_X9_thinkFromNow h M (fun M_14 => ∃ n, l_X9_check_8 h Q n 0 0 M_14))
set_option maxHeartbeats 4000000 in
set_option maxRecDepth 100000 in
theorem so_X9_check (l : Launch) (G : Gm) (h : Nat) (M : Mem) (Q : Int32 → Mem → Prop) (hw : wp_X9_check h M Q) : Ct l G yX9_check cX9_check 3 (some .int) ({ frames := 6, cells := 0, slots := 0, locals := 167 } : Room) [.ref (G.1 + h)] M (Qi Q) := by
  unfold wp_X9_check at hw
  obtain ⟨kh, hw⟩ := hw
  refine ct_of (by decide) (Nat.le_of_ble_eq_true rfl) ?_
  intro p e s m below meth c E_ ls H hl hP hS
  obtain ⟨hx, hb, hml, hown, hts, ht, hr, hlocks, hSt, hTb⟩ := E_
  have hl : lv_has ls 3 [(0, .ref (G.1 + h))] := hl
  have J_68 : ∀ (v1 : Int32) (M : Mem) (H : Heap) (locs : List Loc) (ls : Array Slot), b_X9_check_68 h Q v1 M → va_P G.2.1 clsA (wl G M) H → va_S (inW G) s.heap H locs → lv_has ls 3 [(0, .ref (G.1 + h)), (1, .int v1)] → W p l e ({ frames := 6, cells := 0, slots := 0, locals := 167 } : Room) s m ([.ref (G.1 + h)] : List Value).toArray below meth c H locs 0 0 (MQ below (Pq G (Qi Q)) ([.ref (G.1 + h)] : List Value).toArray s 0 0 (inW G)) (F0 m 68 ls []) := by
    intro v1 M H locs ls  hw hP hS hl
    unfold b_X9_check_68 at hw
    refine lv_aload_n hx hb dX9_check_68 rfl (lv_at hl 0 rfl) ?_
    refine mw_get (ci := 9) (v := .ref (G.1 + (h + 1))) (C := RX9) (T := TX9) (N := 8) hx hb ht inX9 hown hSt hP kh (by decide) (mk9 kh) rfl 0 (by decide) (ht _ wf_RX9_10) rfl rfl dX9_check_69 ?_
    refine mw_get (ci := 8) (v := .ref (G.1 + (h + 1 + 32))) (C := RX8) (T := TX8) (N := 4) hx hb ht inX8 hown hSt hP (ks9_0 kh) (by decide) (mk8 (ks9_0 kh)) rfl 2 (by decide) (ht _ wf_RX9_288) rfl rfl dX9_check_72 ?_
    refine mw_V (As := []) (rest := []) (T := TX3) (N := 2) (n := 0) ⟨hx, hb, hml, hown, hts⟩ (so_X3_clear l G (h + 1 + 32) M _ hw) wm_RX9_165 wi_yX3_clear wv_yX3_clear wn_RX3 wc_yX3_clear (by decide) ⟨Nat.le_of_ble_eq_true rfl, Nat.le_of_ble_eq_true rfl⟩ ⟨rfl, rfl⟩ (ks8_2 (ks9_0 kh)) (by decide) (mk3 (ks8_2 (ks9_0 kh))) rfl hSt hTb hP hS rfl hl.1 rfl (Nat.le_of_ble_eq_true rfl) dX9_check_75 ⟨Nat.le_refl 0, Nat.le_refl 0⟩ (fun rr_ M_1 H locs hq hP hS => ?_)
    obtain ⟨rfl, hw⟩ := hq
    refine lv_iload_n hx hb dX9_check_78 rfl (lv_at hl 1 rfl) ?_
    exact W.iret hx hb hr (mw_end hP hSt hTb hS ⟨_, rfl, hw⟩) hS.2.2 dX9_check_79
  have L_8 : ∀ (n8 : Nat) (v1 : Int32) (v2 : Int32) (M : Mem) (H : Heap) (locs : List Loc) (ls : Array Slot), l_X9_check_8 h Q n8 v1 v2 M → va_P G.2.1 clsA (wl G M) H → va_S (inW G) s.heap H locs → lv_has ls 3 [(0, .ref (G.1 + h)), (1, .int v1), (2, .int v2)] → W p l e ({ frames := 6, cells := 0, slots := 0, locals := 167 } : Room) s m ([.ref (G.1 + h)] : List Value).toArray below meth c H locs 0 0 (MQ below (Pq G (Qi Q)) ([.ref (G.1 + h)] : List Value).toArray s 0 0 (inW G)) (F0 m 8 ls []) := by
    intro   n8
    induction n8 with
    | zero => intro v1 v2 M H locs ls  hw hP hS hl; exact False.elim hw
    | succ n8 ih8 =>
      have J_62 : ∀ (v1 : Int32) (v2 : Int32) (M : Mem) (H : Heap) (locs : List Loc) (ls : Array Slot), b_X9_check_62 h Q (l_X9_check_8 h Q n8) v1 v2 M → va_P G.2.1 clsA (wl G M) H → va_S (inW G) s.heap H locs → lv_has ls 3 [(0, .ref (G.1 + h)), (1, .int v1), (2, .int v2)] → W p l e ({ frames := 6, cells := 0, slots := 0, locals := 167 } : Room) s m ([.ref (G.1 + h)] : List Value).toArray below meth c H locs 0 0 (MQ below (Pq G (Qi Q)) ([.ref (G.1 + h)] : List Value).toArray s 0 0 (inW G)) (F0 m 62 ls []) := by
        intro v1 v2 M H locs ls  hw hP hS hl
        unfold b_X9_check_62 at hw
        obtain ⟨x_2, ex_2⟩ : ∃ z : Int32, z = v2 + 1 := ⟨_, rfl⟩
        have hw := hw x_2 ex_2
        refine lv_iinc (v := x_2) (lv' := [(2, .int x_2), (0, .ref (G.1 + h)), (1, .int v1)]) hx hb dX9_check_62 hl (k := 2) rfl (by rw [ex_2]; rfl) (by decide) rfl (fun ls hl => ?_)
        refine lv_goto (tgt := 8) hx hb dX9_check_65 (by decide) ?_
        exact ih8 v1 x_2 M _ _ _ hw hP hS (lv_sub hl [1, 2, 0] rfl)
      intro v1 v2 M H locs ls  hw hP hS hl
      have hw : B_X9_check_8 h Q (l_X9_check_8 h Q n8) v1 v2 M := hw
      unfold B_X9_check_8 at hw
      refine lv_iload_n hx hb dX9_check_8 rfl (lv_at hl 2 rfl) ?_
      refine lv_aload_n hx hb dX9_check_9 rfl (lv_at hl 0 rfl) ?_
      refine mw_get (ci := 9) (v := .ref (G.1 + (h + 1))) (C := RX9) (T := TX9) (N := 8) hx hb ht inX9 hown hSt hP kh (by decide) (mk9 kh) rfl 0 (by decide) (ht _ wf_RX9_10) rfl rfl dX9_check_10 ?_
      refine mw_get (ci := 8) (v := .ref (G.1 + (h + 1 + 32))) (C := RX8) (T := TX8) (N := 4) hx hb ht inX8 hown hSt hP (ks9_0 kh) (by decide) (mk8 (ks9_0 kh)) rfl 2 (by decide) (ht _ wf_RX9_288) rfl rfl dX9_check_13 ?_
      refine mw_get (ci := 3) (v := .int (M (h + 1 + 32) 1)) (C := RX3) (T := TX3) (N := 2) hx hb ht inX3 hown hSt hP (ks8_2 (ks9_0 kh)) (by decide) (mk3 (ks8_2 (ks9_0 kh))) rfl 1 (by decide) (ht _ wf_RX9_153) rfl rfl dX9_check_16 ?_
      refine lv_icmp_ge (tgt := 68) hx hb dX9_check_19 (by decide) (fun c_3 => ?_) (fun c_3 => ?_)
      · have hw := hw.1 c_3
        exact J_68 v1 M _ _ _ hw hP hS (lv_sub hl [0, 1] rfl)
      · have hw := hw.2 c_3
        refine lv_iload_n hx hb dX9_check_22 rfl (lv_at hl 1 rfl) ?_
        refine lv_if_ne (tgt := 68) hx hb dX9_check_23 (by decide) (fun c_4 => ?_) (fun c_4 => ?_)
        · have hw := hw.1 c_4
          exact J_68 v1 M _ _ _ hw hP hS (lv_sub hl [0, 1] rfl)
        · have hw := hw.2 c_4
          refine lv_aload_n hx hb dX9_check_26 rfl (lv_at hl 0 rfl) ?_
          refine mw_get (ci := 9) (v := .ref (G.1 + (h + 69))) (C := RX9) (T := TX9) (N := 8) hx hb ht inX9 hown hSt hP kh (by decide) (mk9 kh) rfl 2 (by decide) (ht _ wf_RX9_22) rfl rfl dX9_check_27 ?_
          refine lv_iconst (v := 1) hx hb dX9_check_30 (by decide) ?_
          refine mw_V (As := [.int 1]) (rest := []) (T := TX1) (N := 9) (n := 1) ⟨hx, hb, hml, hown, hts⟩ (so_X1_passHours l G (h + 69) 1 M _ hw) wm_RX9_189 wi_yX1_passHours wv_yX1_passHours wn_RX1 wc_yX1_passHours (by decide) ⟨Nat.le_of_ble_eq_true rfl, Nat.le_of_ble_eq_true rfl⟩ ⟨rfl, rfl⟩ (ks9_2 kh) (by decide) (mk1 (ks9_2 kh)) rfl hSt hTb hP hS rfl hl.1 rfl (Nat.le_of_ble_eq_true rfl) dX9_check_31 ⟨Nat.le_refl 0, Nat.le_refl 0⟩ (fun rr_ M_5 H locs hq hP hS => ?_)
          obtain ⟨rfl, hw⟩ := hq
          refine lv_aload_n hx hb dX9_check_34 rfl (lv_at hl 0 rfl) ?_
          refine mw_get (ci := 9) (v := .ref (G.1 + (h + 1))) (C := RX9) (T := TX9) (N := 8) hx hb ht inX9 hown hSt hP kh (by decide) (mk9 kh) rfl 0 (by decide) (ht _ wf_RX9_10) rfl rfl dX9_check_35 ?_
          refine mw_get (ci := 8) (v := .ref (G.1 + (h + 1 + 32))) (C := RX8) (T := TX8) (N := 4) hx hb ht inX8 hown hSt hP (ks9_0 kh) (by decide) (mk8 (ks9_0 kh)) rfl 2 (by decide) (ht _ wf_RX9_288) rfl rfl dX9_check_38 ?_
          refine lv_iload_n hx hb dX9_check_41 rfl (lv_at hl 2 rfl) ?_
          refine mw_V (As := [.int v2]) (rest := []) (T := TX3) (N := 2) (n := 1) ⟨hx, hb, hml, hown, hts⟩ (so_X3_get l G (h + 1 + 32) v2 M_5 _ hw) wm_RX9_238 wi_yX3_get wv_yX3_get wn_RX3 wc_yX3_get (by decide) ⟨Nat.le_of_ble_eq_true rfl, Nat.le_of_ble_eq_true rfl⟩ ⟨rfl, rfl⟩ (ks8_2 (ks9_0 kh)) (by decide) (mk3 (ks8_2 (ks9_0 kh))) rfl hSt hTb hP hS rfl hl.1 rfl (Nat.le_of_ble_eq_true rfl) dX9_check_42 ⟨Nat.le_refl 0, Nat.le_refl 0⟩ (fun rr_ M_6 H locs hq hP hS => ?_)
          obtain ⟨r_7, rfl, hw⟩ := hq
          refine lv_aload_n hx hb dX9_check_45 rfl (lv_at hl 0 rfl) ?_
          refine mw_get (ci := 9) (v := .ref (G.1 + (h + 69))) (C := RX9) (T := TX9) (N := 8) hx hb ht inX9 hown hSt hP kh (by decide) (mk9 kh) rfl 2 (by decide) (ht _ wf_RX9_22) rfl rfl dX9_check_46 ?_
          refine mw_V (As := []) (rest := [.int r_7]) (T := TX1) (N := 9) (n := 0) ⟨hx, hb, hml, hown, hts⟩ (so_X1_foundSet l G (h + 69) M_6 _ hw) wm_RX9_193 wi_yX1_foundSet wv_yX1_foundSet wn_RX1 wc_yX1_foundSet (by decide) ⟨Nat.le_of_ble_eq_true rfl, Nat.le_of_ble_eq_true rfl⟩ ⟨rfl, rfl⟩ (ks9_2 kh) (by decide) (mk1 (ks9_2 kh)) rfl hSt hTb hP hS rfl hl.1 rfl (Nat.le_of_ble_eq_true rfl) dX9_check_49 ⟨Nat.le_refl 0, Nat.le_refl 0⟩ (fun rr_ M_8 H locs hq hP hS => ?_)
          obtain ⟨r_9, rfl, hw⟩ := hq
          refine mw_Sx (As := [.int r_9]) (rest := [.int r_7]) (n := 1) ⟨hx, hb, hml, hown, hts⟩ (so_J6_bitCount_0f7a4 l G r_9 M_8 _ hw) wm_RX9_210 wt_yJ6_bitCount_0f7a4 wn_RJ6 wc_yJ6_bitCount_0f7a4 (by decide) ⟨Nat.le_of_ble_eq_true rfl, Nat.le_of_ble_eq_true rfl⟩ ⟨rfl, rfl⟩ hSt hTb hP hS rfl hl.1 rfl (Nat.le_of_ble_eq_true rfl) dX9_check_52 ⟨Nat.le_refl 0, Nat.le_refl 0⟩ (fun rr_ M_10 H locs hq hP hS => ?_)
          obtain ⟨r_11, rfl, hw⟩ := hq
          refine lv_icmp_eq (tgt := 62) hx hb dX9_check_55 (by decide) (fun c_12 => ?_) (fun c_12 => ?_)
          · have hw := hw.1 c_12
            exact J_62 v1 v2 M_10 _ _ _ hw hP hS (lv_sub hl [0, 1, 2] rfl)
          · have hw := hw.2 c_12
            refine lv_iconst (v := 1) hx hb dX9_check_58 (by decide) ?_
            refine lv_iload_n hx hb dX9_check_59 rfl (lv_at hl 2 rfl) ?_
            refine lv_iadd hx hb dX9_check_60 ?_
            refine lv_topi (fun x_13 ex_13 => ?_)
            have hw := hw x_13 ex_13
            refine lv_istore_n (lv' := [(1, .int x_13), (0, .ref (G.1 + h)), (2, .int v2)]) hx hb dX9_check_61 rfl hl (by decide) rfl (fun ls hl => ?_)
            exact J_62 x_13 v2 M_10 _ _ _ hw hP hS (lv_sub hl [1, 0, 2] rfl)
  refine lv_aload_n hx hb dX9_check_0 rfl (lv_at hl 0 rfl) ?_
  refine mw_V (As := []) (rest := []) (T := TX9) (N := 8) (n := 0) ⟨hx, hb, hml, hown, hts⟩ (so_X9_thinkFromNow l G h M _ hw) wm_RX9_200 wi_yX9_thinkFromNow wv_yX9_thinkFromNow wn_RX9 wc_yX9_thinkFromNow (by decide) ⟨Nat.le_of_ble_eq_true rfl, Nat.le_of_ble_eq_true rfl⟩ ⟨rfl, rfl⟩ kh (by decide) (mk9 kh) rfl hSt hTb hP hS rfl hl.1 rfl (Nat.le_of_ble_eq_true rfl) dX9_check_1 ⟨Nat.le_refl 0, Nat.le_refl 0⟩ (fun rr_ M_14 H locs hq hP hS => ?_)
  obtain ⟨rfl, hw⟩ := hq
  refine lv_iconst (v := 0) hx hb dX9_check_4 (by decide) ?_
  refine lv_istore_n (lv' := [(1, .int 0), (0, .ref (G.1 + h))]) hx hb dX9_check_5 rfl hl (by decide) rfl (fun ls hl => ?_)
  refine lv_iconst (v := 0) hx hb dX9_check_6 (by decide) ?_
  refine lv_istore_n (lv' := [(2, .int 0), (1, .int 0), (0, .ref (G.1 + h))]) hx hb dX9_check_7 rfl hl (by decide) rfl (fun ls hl => ?_)
  obtain ⟨n_, hw⟩ := hw
  exact L_8 n_ 0 0 M_14 _ _ _ hw hP hS (lv_sub hl [2, 1, 0] rfl)
def wp_X9_count (h : Nat) (a1 : Int32) (M : Mem) (Q : Int32 → Mem → Prop) : Prop :=
  kdT h = 9 ∧ ((a1 = 0 → Q (M (h + 1 + 1) 6) M) ∧ (a1 = 1 → Q (M (h + 1 + 1) 7) M) ∧ (a1 = 2 → Q (M (h + 1 + 1) 8) M) ∧ (a1 = 3 → wp_X1_snowInAll (h + 1 + 1) M (fun r_6 M_5 => Q r_6 M_5)) ∧ (a1 = 4 → wp_X1_foundSet (h + 1 + 1) M (fun r_9 M_8 => Q r_9 M_8)) ∧ (a1 = 5 → wp_X1_lostSet (h + 1 + 1) M (fun r_12 M_11 => Q r_12 M_11)) ∧ (a1 = 6 → Q (M (h + 1 + 30) 1) M) ∧ (a1 = 7 → Q (M (h + 1 + 32) 1) M) ∧ (a1 = 8 → Q (M (h + 103 + 1) 1) M) ∧ (a1 = 9 → Q (M (h + 1) 3) M) ∧ (¬ a1 = 0 → ¬ a1 = 1 → ¬ a1 = 2 → ¬ a1 = 3 → ¬ a1 = 4 → ¬ a1 = 5 → ¬ a1 = 6 → ¬ a1 = 7 → ¬ a1 = 8 → ¬ a1 = 9 → wp_X9_refuse h 1 M (fun r_18 M_17 => Q r_18 M_17)))
set_option maxHeartbeats 4000000 in
set_option maxRecDepth 100000 in
theorem so_X9_count (l : Launch) (G : Gm) (h : Nat) (a1 : Int32) (M : Mem) (Q : Int32 → Mem → Prop) (hw : wp_X9_count h a1 M Q) : Ct l G yX9_count cX9_count 2 (some .int) ({ frames := 2, cells := 0, slots := 0, locals := 42 } : Room) [.ref (G.1 + h), .int a1] M (Qi Q) := by
  unfold wp_X9_count at hw
  obtain ⟨kh, hw⟩ := hw
  refine ct_of (by decide) (Nat.le_of_ble_eq_true rfl) ?_
  intro p e s m below meth c E_ ls H hl hP hS
  obtain ⟨hx, hb, hml, hown, hts, ht, hr, hlocks, hSt, hTb⟩ := E_
  have hl : lv_has ls 2 [(0, .ref (G.1 + h)), (1, .int a1)] := hl
  refine lv_iload_n hx hb dX9_count_0 rfl (lv_at hl 1 rfl) ?_
  by_cases c_1 : a1 = 0
  · have hw := hw.1 c_1
    refine mw_tcase (tgt := 56) (off := 55) hx hb dX9_count_1 c_1 (by decide) ?_
    refine lv_aload_n hx hb dX9_count_56 rfl (lv_at hl 0 rfl) ?_
    refine mw_get (ci := 9) (v := .ref (G.1 + (h + 1))) (C := RX9) (T := TX9) (N := 8) hx hb ht inX9 hown hSt hP kh (by decide) (mk9 kh) rfl 0 (by decide) (ht _ wf_RX9_10) rfl rfl dX9_count_57 ?_
    refine mw_get (ci := 8) (v := .ref (G.1 + (h + 1 + 1))) (C := RX8) (T := TX8) (N := 4) hx hb ht inX8 hown hSt hP (ks9_0 kh) (by decide) (mk8 (ks9_0 kh)) rfl 0 (by decide) (ht _ wf_RX9_63) rfl rfl dX9_count_60 ?_
    refine mw_get (ci := 1) (v := .int (M (h + 1 + 1) 6)) (C := RX1) (T := TX1) (N := 9) hx hb ht inX1 hown hSt hP (ks8_0 (ks9_0 kh)) (by decide) (mk1 (ks8_0 (ks9_0 kh))) rfl 6 (by decide) (ht _ wf_RX9_75) rfl rfl dX9_count_63 ?_
    exact W.iret hx hb hr (mw_end hP hSt hTb hS ⟨_, rfl, hw⟩) hS.2.2 dX9_count_66
  by_cases c_2 : a1 = 1
  · have hw := hw.2.1 c_2
    refine mw_tcase (tgt := 67) (off := 66) hx hb dX9_count_1 c_2 (by decide) ?_
    refine lv_aload_n hx hb dX9_count_67 rfl (lv_at hl 0 rfl) ?_
    refine mw_get (ci := 9) (v := .ref (G.1 + (h + 1))) (C := RX9) (T := TX9) (N := 8) hx hb ht inX9 hown hSt hP kh (by decide) (mk9 kh) rfl 0 (by decide) (ht _ wf_RX9_10) rfl rfl dX9_count_68 ?_
    refine mw_get (ci := 8) (v := .ref (G.1 + (h + 1 + 1))) (C := RX8) (T := TX8) (N := 4) hx hb ht inX8 hown hSt hP (ks9_0 kh) (by decide) (mk8 (ks9_0 kh)) rfl 0 (by decide) (ht _ wf_RX9_63) rfl rfl dX9_count_71 ?_
    refine mw_get (ci := 1) (v := .int (M (h + 1 + 1) 7)) (C := RX1) (T := TX1) (N := 9) hx hb ht inX1 hown hSt hP (ks8_0 (ks9_0 kh)) (by decide) (mk1 (ks8_0 (ks9_0 kh))) rfl 7 (by decide) (ht _ wf_RX9_103) rfl rfl dX9_count_74 ?_
    exact W.iret hx hb hr (mw_end hP hSt hTb hS ⟨_, rfl, hw⟩) hS.2.2 dX9_count_77
  by_cases c_3 : a1 = 2
  · have hw := hw.2.2.1 c_3
    refine mw_tcase (tgt := 78) (off := 77) hx hb dX9_count_1 c_3 (by decide) ?_
    refine lv_aload_n hx hb dX9_count_78 rfl (lv_at hl 0 rfl) ?_
    refine mw_get (ci := 9) (v := .ref (G.1 + (h + 1))) (C := RX9) (T := TX9) (N := 8) hx hb ht inX9 hown hSt hP kh (by decide) (mk9 kh) rfl 0 (by decide) (ht _ wf_RX9_10) rfl rfl dX9_count_79 ?_
    refine mw_get (ci := 8) (v := .ref (G.1 + (h + 1 + 1))) (C := RX8) (T := TX8) (N := 4) hx hb ht inX8 hown hSt hP (ks9_0 kh) (by decide) (mk8 (ks9_0 kh)) rfl 0 (by decide) (ht _ wf_RX9_63) rfl rfl dX9_count_82 ?_
    refine mw_get (ci := 1) (v := .int (M (h + 1 + 1) 8)) (C := RX1) (T := TX1) (N := 9) hx hb ht inX1 hown hSt hP (ks8_0 (ks9_0 kh)) (by decide) (mk1 (ks8_0 (ks9_0 kh))) rfl 8 (by decide) (ht _ wf_RX9_134) rfl rfl dX9_count_85 ?_
    exact W.iret hx hb hr (mw_end hP hSt hTb hS ⟨_, rfl, hw⟩) hS.2.2 dX9_count_88
  by_cases c_4 : a1 = 3
  · have hw := hw.2.2.2.1 c_4
    refine mw_tcase (tgt := 89) (off := 88) hx hb dX9_count_1 c_4 (by decide) ?_
    refine lv_aload_n hx hb dX9_count_89 rfl (lv_at hl 0 rfl) ?_
    refine mw_get (ci := 9) (v := .ref (G.1 + (h + 1))) (C := RX9) (T := TX9) (N := 8) hx hb ht inX9 hown hSt hP kh (by decide) (mk9 kh) rfl 0 (by decide) (ht _ wf_RX9_10) rfl rfl dX9_count_90 ?_
    refine mw_get (ci := 8) (v := .ref (G.1 + (h + 1 + 1))) (C := RX8) (T := TX8) (N := 4) hx hb ht inX8 hown hSt hP (ks9_0 kh) (by decide) (mk8 (ks9_0 kh)) rfl 0 (by decide) (ht _ wf_RX9_63) rfl rfl dX9_count_93 ?_
    refine mw_V (As := []) (rest := []) (T := TX1) (N := 9) (n := 0) ⟨hx, hb, hml, hown, hts⟩ (so_X1_snowInAll l G (h + 1 + 1) M _ hw) wm_RX9_291 wi_yX1_snowInAll wv_yX1_snowInAll wn_RX1 wc_yX1_snowInAll (by decide) ⟨Nat.le_of_ble_eq_true rfl, Nat.le_of_ble_eq_true rfl⟩ ⟨rfl, rfl⟩ (ks8_0 (ks9_0 kh)) (by decide) (mk1 (ks8_0 (ks9_0 kh))) rfl hSt hTb hP hS rfl hl.1 rfl (Nat.le_of_ble_eq_true rfl) dX9_count_96 ⟨Nat.le_refl 0, Nat.le_refl 0⟩ (fun rr_ M_5 H locs hq hP hS => ?_)
    obtain ⟨r_6, rfl, hw⟩ := hq
    exact W.iret hx hb hr (mw_end hP hSt hTb hS ⟨_, rfl, hw⟩) hS.2.2 dX9_count_99
  by_cases c_7 : a1 = 4
  · have hw := hw.2.2.2.2.1 c_7
    refine mw_tcase (tgt := 100) (off := 99) hx hb dX9_count_1 c_7 (by decide) ?_
    refine lv_aload_n hx hb dX9_count_100 rfl (lv_at hl 0 rfl) ?_
    refine mw_get (ci := 9) (v := .ref (G.1 + (h + 1))) (C := RX9) (T := TX9) (N := 8) hx hb ht inX9 hown hSt hP kh (by decide) (mk9 kh) rfl 0 (by decide) (ht _ wf_RX9_10) rfl rfl dX9_count_101 ?_
    refine mw_get (ci := 8) (v := .ref (G.1 + (h + 1 + 1))) (C := RX8) (T := TX8) (N := 4) hx hb ht inX8 hown hSt hP (ks9_0 kh) (by decide) (mk8 (ks9_0 kh)) rfl 0 (by decide) (ht _ wf_RX9_63) rfl rfl dX9_count_104 ?_
    refine mw_V (As := []) (rest := []) (T := TX1) (N := 9) (n := 0) ⟨hx, hb, hml, hown, hts⟩ (so_X1_foundSet l G (h + 1 + 1) M _ hw) wm_RX9_193 wi_yX1_foundSet wv_yX1_foundSet wn_RX1 wc_yX1_foundSet (by decide) ⟨Nat.le_of_ble_eq_true rfl, Nat.le_of_ble_eq_true rfl⟩ ⟨rfl, rfl⟩ (ks8_0 (ks9_0 kh)) (by decide) (mk1 (ks8_0 (ks9_0 kh))) rfl hSt hTb hP hS rfl hl.1 rfl (Nat.le_of_ble_eq_true rfl) dX9_count_107 ⟨Nat.le_refl 0, Nat.le_refl 0⟩ (fun rr_ M_8 H locs hq hP hS => ?_)
    obtain ⟨r_9, rfl, hw⟩ := hq
    exact W.iret hx hb hr (mw_end hP hSt hTb hS ⟨_, rfl, hw⟩) hS.2.2 dX9_count_110
  by_cases c_10 : a1 = 5
  · have hw := hw.2.2.2.2.2.1 c_10
    refine mw_tcase (tgt := 111) (off := 110) hx hb dX9_count_1 c_10 (by decide) ?_
    refine lv_aload_n hx hb dX9_count_111 rfl (lv_at hl 0 rfl) ?_
    refine mw_get (ci := 9) (v := .ref (G.1 + (h + 1))) (C := RX9) (T := TX9) (N := 8) hx hb ht inX9 hown hSt hP kh (by decide) (mk9 kh) rfl 0 (by decide) (ht _ wf_RX9_10) rfl rfl dX9_count_112 ?_
    refine mw_get (ci := 8) (v := .ref (G.1 + (h + 1 + 1))) (C := RX8) (T := TX8) (N := 4) hx hb ht inX8 hown hSt hP (ks9_0 kh) (by decide) (mk8 (ks9_0 kh)) rfl 0 (by decide) (ht _ wf_RX9_63) rfl rfl dX9_count_115 ?_
    refine mw_V (As := []) (rest := []) (T := TX1) (N := 9) (n := 0) ⟨hx, hb, hml, hown, hts⟩ (so_X1_lostSet l G (h + 1 + 1) M _ hw) wm_RX9_294 wi_yX1_lostSet wv_yX1_lostSet wn_RX1 wc_yX1_lostSet (by decide) ⟨Nat.le_of_ble_eq_true rfl, Nat.le_of_ble_eq_true rfl⟩ ⟨rfl, rfl⟩ (ks8_0 (ks9_0 kh)) (by decide) (mk1 (ks8_0 (ks9_0 kh))) rfl hSt hTb hP hS rfl hl.1 rfl (Nat.le_of_ble_eq_true rfl) dX9_count_118 ⟨Nat.le_refl 0, Nat.le_refl 0⟩ (fun rr_ M_11 H locs hq hP hS => ?_)
    obtain ⟨r_12, rfl, hw⟩ := hq
    exact W.iret hx hb hr (mw_end hP hSt hTb hS ⟨_, rfl, hw⟩) hS.2.2 dX9_count_121
  by_cases c_13 : a1 = 6
  · have hw := hw.2.2.2.2.2.2.1 c_13
    refine mw_tcase (tgt := 122) (off := 121) hx hb dX9_count_1 c_13 (by decide) ?_
    refine lv_aload_n hx hb dX9_count_122 rfl (lv_at hl 0 rfl) ?_
    refine mw_get (ci := 9) (v := .ref (G.1 + (h + 1))) (C := RX9) (T := TX9) (N := 8) hx hb ht inX9 hown hSt hP kh (by decide) (mk9 kh) rfl 0 (by decide) (ht _ wf_RX9_10) rfl rfl dX9_count_123 ?_
    refine mw_get (ci := 8) (v := .ref (G.1 + (h + 1 + 30))) (C := RX8) (T := TX8) (N := 4) hx hb ht inX8 hown hSt hP (ks9_0 kh) (by decide) (mk8 (ks9_0 kh)) rfl 1 (by decide) (ht _ wf_RX9_149) rfl rfl dX9_count_126 ?_
    refine mw_get (ci := 3) (v := .int (M (h + 1 + 30) 1)) (C := RX3) (T := TX3) (N := 2) hx hb ht inX3 hown hSt hP (ks8_1 (ks9_0 kh)) (by decide) (mk3 (ks8_1 (ks9_0 kh))) rfl 1 (by decide) (ht _ wf_RX9_153) rfl rfl dX9_count_129 ?_
    exact W.iret hx hb hr (mw_end hP hSt hTb hS ⟨_, rfl, hw⟩) hS.2.2 dX9_count_132
  by_cases c_14 : a1 = 7
  · have hw := hw.2.2.2.2.2.2.2.1 c_14
    refine mw_tcase (tgt := 133) (off := 132) hx hb dX9_count_1 c_14 (by decide) ?_
    refine lv_aload_n hx hb dX9_count_133 rfl (lv_at hl 0 rfl) ?_
    refine mw_get (ci := 9) (v := .ref (G.1 + (h + 1))) (C := RX9) (T := TX9) (N := 8) hx hb ht inX9 hown hSt hP kh (by decide) (mk9 kh) rfl 0 (by decide) (ht _ wf_RX9_10) rfl rfl dX9_count_134 ?_
    refine mw_get (ci := 8) (v := .ref (G.1 + (h + 1 + 32))) (C := RX8) (T := TX8) (N := 4) hx hb ht inX8 hown hSt hP (ks9_0 kh) (by decide) (mk8 (ks9_0 kh)) rfl 2 (by decide) (ht _ wf_RX9_288) rfl rfl dX9_count_137 ?_
    refine mw_get (ci := 3) (v := .int (M (h + 1 + 32) 1)) (C := RX3) (T := TX3) (N := 2) hx hb ht inX3 hown hSt hP (ks8_2 (ks9_0 kh)) (by decide) (mk3 (ks8_2 (ks9_0 kh))) rfl 1 (by decide) (ht _ wf_RX9_153) rfl rfl dX9_count_140 ?_
    exact W.iret hx hb hr (mw_end hP hSt hTb hS ⟨_, rfl, hw⟩) hS.2.2 dX9_count_143
  by_cases c_15 : a1 = 8
  · have hw := hw.2.2.2.2.2.2.2.2.1 c_15
    refine mw_tcase (tgt := 144) (off := 143) hx hb dX9_count_1 c_15 (by decide) ?_
    refine lv_aload_n hx hb dX9_count_144 rfl (lv_at hl 0 rfl) ?_
    refine mw_get (ci := 9) (v := .ref (G.1 + (h + 103))) (C := RX9) (T := TX9) (N := 8) hx hb ht inX9 hown hSt hP kh (by decide) (mk9 kh) rfl 4 (by decide) (ht _ wf_RX9_36) rfl rfl dX9_count_145 ?_
    refine mw_get (ci := 7) (v := .ref (G.1 + (h + 103 + 1))) (C := RX7) (T := TX7) (N := 4) hx hb ht inX7 hown hSt hP (ks9_4 kh) (by decide) (mk7 (ks9_4 kh)) rfl 0 (by decide) (ht _ wf_RX9_251) rfl rfl dX9_count_148 ?_
    refine mw_get (ci := 3) (v := .int (M (h + 103 + 1) 1)) (C := RX3) (T := TX3) (N := 2) hx hb ht inX3 hown hSt hP (ks7_0 (ks9_4 kh)) (by decide) (mk3 (ks7_0 (ks9_4 kh))) rfl 1 (by decide) (ht _ wf_RX9_153) rfl rfl dX9_count_151 ?_
    exact W.iret hx hb hr (mw_end hP hSt hTb hS ⟨_, rfl, hw⟩) hS.2.2 dX9_count_154
  by_cases c_16 : a1 = 9
  · have hw := hw.2.2.2.2.2.2.2.2.2.1 c_16
    refine mw_tcase (tgt := 155) (off := 154) hx hb dX9_count_1 c_16 (by decide) ?_
    refine lv_aload_n hx hb dX9_count_155 rfl (lv_at hl 0 rfl) ?_
    refine mw_get (ci := 9) (v := .ref (G.1 + (h + 1))) (C := RX9) (T := TX9) (N := 8) hx hb ht inX9 hown hSt hP kh (by decide) (mk9 kh) rfl 0 (by decide) (ht _ wf_RX9_10) rfl rfl dX9_count_156 ?_
    refine mw_get (ci := 8) (v := .int (M (h + 1) 3)) (C := RX8) (T := TX8) (N := 4) hx hb ht inX8 hown hSt hP (ks9_0 kh) (by decide) (mk8 (ks9_0 kh)) rfl 3 (by decide) (ht _ wf_RX9_244) rfl rfl dX9_count_159 ?_
    exact W.iret hx hb hr (mw_end hP hSt hTb hS ⟨_, rfl, hw⟩) hS.2.2 dX9_count_162
  have hw := hw.2.2.2.2.2.2.2.2.2.2 c_1 c_2 c_3 c_4 c_7 c_10 c_13 c_14 c_15 c_16
  refine mw_tdef (keys := [0, 1, 2, 3, 4, 5, 6, 7, 8, 9]) (tgt := 163) hx hb dX9_count_1 (List.forall_mem_cons.mpr ⟨c_1, (List.forall_mem_cons.mpr ⟨c_2, (List.forall_mem_cons.mpr ⟨c_3, (List.forall_mem_cons.mpr ⟨c_4, (List.forall_mem_cons.mpr ⟨c_7, (List.forall_mem_cons.mpr ⟨c_10, (List.forall_mem_cons.mpr ⟨c_13, (List.forall_mem_cons.mpr ⟨c_14, (List.forall_mem_cons.mpr ⟨c_15, (List.forall_mem_cons.mpr ⟨c_16, (fun _ h_ => absurd h_ List.not_mem_nil)⟩)⟩)⟩)⟩)⟩)⟩)⟩)⟩)⟩)⟩) (by decide) (by decide) ?_
  refine lv_aload_n hx hb dX9_count_163 rfl (lv_at hl 0 rfl) ?_
  refine lv_iconst (v := 1) hx hb dX9_count_164 (by decide) ?_
  refine mw_V (As := [.int 1]) (rest := []) (T := TX9) (N := 8) (n := 1) ⟨hx, hb, hml, hown, hts⟩ (so_X9_refuse l G h 1 M _ hw) wm_RX9_59 wi_yX9_refuse wv_yX9_refuse wn_RX9 wc_yX9_refuse (by decide) ⟨Nat.le_of_ble_eq_true rfl, Nat.le_of_ble_eq_true rfl⟩ ⟨rfl, rfl⟩ kh (by decide) (mk9 kh) rfl hSt hTb hP hS rfl hl.1 rfl (Nat.le_of_ble_eq_true rfl) dX9_count_165 ⟨Nat.le_refl 0, Nat.le_refl 0⟩ (fun rr_ M_17 H locs hq hP hS => ?_)
  obtain ⟨r_18, rfl, hw⟩ := hq
  exact W.iret hx hb hr (mw_end hP hSt hTb hS ⟨_, rfl, hw⟩) hS.2.2 dX9_count_168
def b_X9_told_19 (h : Nat) (Q : Int32 → Mem → Prop) (M : Mem) : Prop :=
  wp_X9_refuse h 1 M (fun r_2 M_1 => Q r_2 M_1)
def wp_X9_told (h : Nat) (a1 : Int32) (M : Mem) (Q : Int32 → Mem → Prop) : Prop :=
  kdT h = 9 ∧ ((a1 < 1 → b_X9_told_19 h Q M) ∧ (¬ a1 < 1 → (5 < a1 → b_X9_told_19 h Q M) ∧ (¬ 5 < a1 → vp_in a1 6 ∧ (Q (M (h + 107) a1.toNatClampNeg) M))))
set_option maxHeartbeats 4000000 in
set_option maxRecDepth 100000 in
theorem so_X9_told (l : Launch) (G : Gm) (h : Nat) (a1 : Int32) (M : Mem) (Q : Int32 → Mem → Prop) (hw : wp_X9_told h a1 M Q) : Ct l G yX9_told cX9_told 2 (some .int) ({ frames := 1, cells := 0, slots := 0, locals := 21 } : Room) [.ref (G.1 + h), .int a1] M (Qi Q) := by
  unfold wp_X9_told at hw
  obtain ⟨kh, hw⟩ := hw
  refine ct_of (by decide) (Nat.le_of_ble_eq_true rfl) ?_
  intro p e s m below meth c E_ ls H hl hP hS
  obtain ⟨hx, hb, hml, hown, hts, ht, hr, hlocks, hSt, hTb⟩ := E_
  have hl : lv_has ls 2 [(0, .ref (G.1 + h)), (1, .int a1)] := hl
  have J_19 : ∀  (M : Mem) (H : Heap) (locs : List Loc) (ls : Array Slot), b_X9_told_19 h Q M → va_P G.2.1 clsA (wl G M) H → va_S (inW G) s.heap H locs → lv_has ls 2 [(0, .ref (G.1 + h))] → W p l e ({ frames := 1, cells := 0, slots := 0, locals := 21 } : Room) s m ([.ref (G.1 + h), .int a1] : List Value).toArray below meth c H locs 0 0 (MQ below (Pq G (Qi Q)) ([.ref (G.1 + h), .int a1] : List Value).toArray s 0 0 (inW G)) (F0 m 19 ls []) := by
    intro  M H locs ls  hw hP hS hl
    unfold b_X9_told_19 at hw
    refine lv_aload_n hx hb dX9_told_19 rfl (lv_at hl 0 rfl) ?_
    refine lv_iconst (v := 1) hx hb dX9_told_20 (by decide) ?_
    refine mw_V (As := [.int 1]) (rest := []) (T := TX9) (N := 8) (n := 1) ⟨hx, hb, hml, hown, hts⟩ (so_X9_refuse l G h 1 M _ hw) wm_RX9_59 wi_yX9_refuse wv_yX9_refuse wn_RX9 wc_yX9_refuse (by decide) ⟨Nat.le_of_ble_eq_true rfl, Nat.le_of_ble_eq_true rfl⟩ ⟨rfl, rfl⟩ kh (by decide) (mk9 kh) rfl hSt hTb hP hS rfl hl.1 rfl (Nat.le_of_ble_eq_true rfl) dX9_told_21 ⟨Nat.le_refl 0, Nat.le_refl 0⟩ (fun rr_ M_1 H locs hq hP hS => ?_)
    obtain ⟨r_2, rfl, hw⟩ := hq
    exact W.iret hx hb hr (mw_end hP hSt hTb hS ⟨_, rfl, hw⟩) hS.2.2 dX9_told_24
  refine lv_iload_n hx hb dX9_told_0 rfl (lv_at hl 1 rfl) ?_
  refine lv_iconst (v := 1) hx hb dX9_told_1 (by decide) ?_
  refine lv_icmp_lt (tgt := 19) hx hb dX9_told_2 (by decide) (fun c_3 => ?_) (fun c_3 => ?_)
  · have hw := hw.1 c_3
    exact J_19 M _ _ _ hw hP hS (lv_sub hl [0] rfl)
  · have hw := hw.2 c_3
    refine lv_iload_n hx hb dX9_told_5 rfl (lv_at hl 1 rfl) ?_
    refine lv_iconst (v := 5) hx hb dX9_told_6 (by decide) ?_
    refine lv_icmp_gt (tgt := 19) hx hb dX9_told_7 (by decide) (fun c_4 => ?_) (fun c_4 => ?_)
    · have hw := hw.1 c_4
      exact J_19 M _ _ _ hw hP hS (lv_sub hl [0] rfl)
    · have hw := hw.2 c_4
      refine lv_aload_n hx hb dX9_told_10 rfl (lv_at hl 0 rfl) ?_
      refine mw_get (ci := 9) (v := .ref (G.1 + (h + 107))) (C := RX9) (T := TX9) (N := 8) hx hb ht inX9 hown hSt hP kh (by decide) (mk9 kh) rfl 6 (by decide) (ht _ wf_RX9_46) rfl rfl dX9_told_11 ?_
      refine lv_iload_n hx hb dX9_told_14 rfl (lv_at hl 1 rfl) ?_
      obtain ⟨c_5, hw⟩ := hw
      refine mw_iald hx hb hSt hP (ks9_6 kh) (by rw [(ln9_6 kh)]; exact c_5) dX9_told_15 ?_
      refine lv_goto (tgt := 24) hx hb dX9_told_16 (by decide) ?_
      exact W.iret hx hb hr (mw_end hP hSt hTb hS ⟨_, rfl, hw⟩) hS.2.2 dX9_told_24
