def b_X1_seekersAt_33 (h : Nat) (Q : Int32 → Mem → Prop) (K4 : Int32 → Int32 → Mem → Prop) (v1 : Int32) (v3 : Int32) (s0 : Int32) (s1 : Int32) (M : Mem) : Prop :=
  ∀ x_1, x_1 = s0 ||| s1 → ∀ x_2 : Int32, x_2 = v3 + 1 → K4 x_1 x_2 M
def B_X1_seekersAt_4 (h : Nat) (Q : Int32 → Mem → Prop) (v1 : Int32) (K4 : Int32 → Int32 → Mem → Prop) (v2 : Int32) (v3 : Int32) (M : Mem) : Prop :=
  ((M h 6) ≤ v3 → Q v2 M) ∧ (¬ (M h 6) ≤ v3 → vp_in v3 6 ∧ ((¬ (M (h + 12 + 4 + v3.toNatClampNeg) 0) = v1 → b_X1_seekersAt_33 h Q K4 v1 v3 v2 0 M) ∧ ((M (h + 12 + 4 + v3.toNatClampNeg) 0) = v1 → b_X1_seekersAt_33 h Q K4 v1 v3 v2 (ish 1 v3) M)))
def l_X1_seekersAt_4 (h : Nat) (Q : Int32 → Mem → Prop) (v1 : Int32) : Nat → Int32 → Int32 → Mem → Prop
  | 0 => fun _ _ _ => False
  | n + 1 => B_X1_seekersAt_4 h Q v1 (l_X1_seekersAt_4 h Q v1 n)
def wp_X1_seekersAt (h : Nat) (a1 : Int32) (M : Mem) (Q : Int32 → Mem → Prop) : Prop :=
  kdT h = 1 ∧ (∃ n, l_X1_seekersAt_4 h Q a1 n 0 0 M)
set_option maxHeartbeats 4000000 in
set_option maxRecDepth 100000 in
theorem so_X1_seekersAt (l : Launch) (G : Gm) (h : Nat) (a1 : Int32) (M : Mem) (Q : Int32 → Mem → Prop) (hw : wp_X1_seekersAt h a1 M Q) : Ct l G yX1_seekersAt cX1_seekersAt 4 (some .int) ({ frames := 0, cells := 0, slots := 0, locals := 0 } : Room) [.ref (G.1 + h), .int a1] M (Qi Q) := by
  unfold wp_X1_seekersAt at hw
  obtain ⟨kh, hw⟩ := hw
  refine ct_of (by decide) (Nat.le_of_ble_eq_true rfl) ?_
  intro p e s m below meth c E_ ls H hl hP hS
  obtain ⟨hx, hb, hml, hown, hts, ht, hr, hlocks, hSt, hTb⟩ := E_
  have hl : lv_has ls 4 [(0, .ref (G.1 + h)), (1, .int a1)] := hl
  have L_4 : ∀ (v1 : Int32), ∀ (n4 : Nat) (v2 : Int32) (v3 : Int32) (M : Mem) (H : Heap) (locs : List Loc) (ls : Array Slot), l_X1_seekersAt_4 h Q v1 n4 v2 v3 M → va_P G.2.1 clsA (wl G M) H → va_S (inW G) s.heap H locs → lv_has ls 4 [(0, .ref (G.1 + h)), (1, .int v1), (2, .int v2), (3, .int v3)] → W p l e ({ frames := 0, cells := 0, slots := 0, locals := 0 } : Room) s m ([.ref (G.1 + h), .int a1] : List Value).toArray below meth c H locs 0 0 (MQ below (Pq G (Qi Q)) ([.ref (G.1 + h), .int a1] : List Value).toArray s 0 0 (inW G)) (F0 m 4 ls []) := by
    intro v1  n4
    induction n4 with
    | zero => intro v2 v3 M H locs ls  hw hP hS hl; exact False.elim hw
    | succ n4 ih4 =>
      have J_33 : ∀ (v3 : Int32) (s0 : Int32) (s1 : Int32) (M : Mem) (H : Heap) (locs : List Loc) (ls : Array Slot), b_X1_seekersAt_33 h Q (l_X1_seekersAt_4 h Q v1 n4) v1 v3 s0 s1 M → va_P G.2.1 clsA (wl G M) H → va_S (inW G) s.heap H locs → lv_has ls 4 [(0, .ref (G.1 + h)), (1, .int v1), (3, .int v3)] → W p l e ({ frames := 0, cells := 0, slots := 0, locals := 0 } : Room) s m ([.ref (G.1 + h), .int a1] : List Value).toArray below meth c H locs 0 0 (MQ below (Pq G (Qi Q)) ([.ref (G.1 + h), .int a1] : List Value).toArray s 0 0 (inW G)) (F0 m 33 ls [.int s1, .int s0]) := by
        intro v3 s0 s1 M H locs ls  hw hP hS hl
        unfold b_X1_seekersAt_33 at hw
        refine lv_ior hx hb dX1_seekersAt_33 ?_
        refine lv_topi (fun x_1 ex_1 => ?_)
        have hw := hw x_1 ex_1
        refine lv_istore_n (lv' := [(2, .int x_1), (0, .ref (G.1 + h)), (1, .int v1), (3, .int v3)]) hx hb dX1_seekersAt_34 rfl hl (by decide) rfl (fun ls hl => ?_)
        obtain ⟨x_2, ex_2⟩ : ∃ z : Int32, z = v3 + 1 := ⟨_, rfl⟩
        have hw := hw x_2 ex_2
        refine lv_iinc (v := x_2) (lv' := [(3, .int x_2), (2, .int x_1), (0, .ref (G.1 + h)), (1, .int v1)]) hx hb dX1_seekersAt_35 hl (k := 3) rfl (by rw [ex_2]; rfl) (by decide) rfl (fun ls hl => ?_)
        refine lv_goto (tgt := 4) hx hb dX1_seekersAt_38 (by decide) ?_
        exact ih4 x_1 x_2 M _ _ _ hw hP hS (lv_sub hl [2, 3, 1, 0] rfl)
      intro v2 v3 M H locs ls  hw hP hS hl
      have hw : B_X1_seekersAt_4 h Q v1 (l_X1_seekersAt_4 h Q v1 n4) v2 v3 M := hw
      unfold B_X1_seekersAt_4 at hw
      refine lv_iload_n hx hb dX1_seekersAt_4 rfl (lv_at hl 3 rfl) ?_
      refine lv_aload_n hx hb dX1_seekersAt_5 rfl (lv_at hl 0 rfl) ?_
      refine mw_get (ci := 1) (v := .int (M h 6)) (C := RX1) (T := TX1) (N := 9) hx hb ht inX1 hown hSt hP kh (by decide) (mk1 kh) rfl 6 (by decide) (ht _ wf_RX1_55) rfl rfl dX1_seekersAt_6 ?_
      refine lv_icmp_ge (tgt := 41) hx hb dX1_seekersAt_9 (by decide) (fun c_3 => ?_) (fun c_3 => ?_)
      · have hw := hw.1 c_3
        refine lv_iload_n hx hb dX1_seekersAt_41 rfl (lv_at hl 2 rfl) ?_
        exact W.iret hx hb hr (mw_end hP hSt hTb hS ⟨_, rfl, hw⟩) hS.2.2 dX1_seekersAt_42
      · have hw := hw.2 c_3
        refine lv_iload_n hx hb dX1_seekersAt_12 rfl (lv_at hl 2 rfl) ?_
        refine lv_aload_n hx hb dX1_seekersAt_13 rfl (lv_at hl 0 rfl) ?_
        refine mw_get (ci := 1) (v := .ref (G.1 + (h + 12))) (C := RX1) (T := TX1) (N := 9) hx hb ht inX1 hown hSt hP kh (by decide) (mk1 kh) rfl 3 (by decide) (ht _ wf_RX1_29) rfl rfl dX1_seekersAt_14 ?_
        refine lv_iload_n hx hb dX1_seekersAt_17 rfl (lv_at hl 3 rfl) ?_
        obtain ⟨c_4, hw⟩ := hw
        refine mw_aald12 hx hb hSt hP (ks1_3 kh) (by rw [(ln1_3 kh)]; exact c_4) dX1_seekersAt_18 ?_
        refine mw_get (ci := 4) (v := .int (M (h + 12 + 4 + v3.toNatClampNeg) 0)) (C := RX4) (T := TX4) (N := 2) hx hb ht inX4 hown hSt hP (ke12 (ks1_3 kh) (vp_lt (by rw [(ln1_3 kh)]; exact c_4))) (by decide) (mk4 (ke12 (ks1_3 kh) (vp_lt (by rw [(ln1_3 kh)]; exact c_4)))) rfl 0 (by decide) (ht _ wf_RX1_91) rfl rfl dX1_seekersAt_19 ?_
        refine lv_iload_n hx hb dX1_seekersAt_22 rfl (lv_at hl 1 rfl) ?_
        refine lv_icmp_ne (tgt := 32) hx hb dX1_seekersAt_23 (by decide) (fun c_5 => ?_) (fun c_5 => ?_)
        · have hw := hw.1 c_5
          refine lv_iconst (v := 0) hx hb dX1_seekersAt_32 (by decide) ?_
          exact J_33 v3 v2 0 M _ _ _ hw hP hS (lv_sub hl [0, 1, 3] rfl)
        · have hw := hw.2 c_5
          refine lv_iconst (v := 1) hx hb dX1_seekersAt_26 (by decide) ?_
          refine lv_iload_n hx hb dX1_seekersAt_27 rfl (lv_at hl 3 rfl) ?_
          refine lv_ishl hx hb dX1_seekersAt_28 ?_
          refine lv_goto (tgt := 33) hx hb dX1_seekersAt_29 (by decide) ?_
          exact J_33 v3 v2 (ish 1 v3) M _ _ _ hw hP hS (lv_sub hl [0, 1, 3] rfl)
  refine lv_iconst (v := 0) hx hb dX1_seekersAt_0 (by decide) ?_
  refine lv_istore_n (lv' := [(2, .int 0), (0, .ref (G.1 + h)), (1, .int a1)]) hx hb dX1_seekersAt_1 rfl hl (by decide) rfl (fun ls hl => ?_)
  refine lv_iconst (v := 0) hx hb dX1_seekersAt_2 (by decide) ?_
  refine lv_istore_n (lv' := [(3, .int 0), (2, .int 0), (0, .ref (G.1 + h)), (1, .int a1)]) hx hb dX1_seekersAt_3 rfl hl (by decide) rfl (fun ls hl => ?_)
  obtain ⟨n_, hw⟩ := hw
  exact L_4 a1 n_ 0 0 M _ _ _ hw hP hS (lv_sub hl [2, 3, 1, 0] rfl)
def b_X1_sheepIn_33 (h : Nat) (Q : Int32 → Mem → Prop) (K4 : Int32 → Int32 → Mem → Prop) (v1 : Int32) (v3 : Int32) (s0 : Int32) (s1 : Int32) (M : Mem) : Prop :=
  ∀ x_1, x_1 = s0 ||| s1 → ∀ x_2 : Int32, x_2 = v3 + 1 → K4 x_1 x_2 M
def B_X1_sheepIn_4 (h : Nat) (Q : Int32 → Mem → Prop) (v1 : Int32) (K4 : Int32 → Int32 → Mem → Prop) (v2 : Int32) (v3 : Int32) (M : Mem) : Prop :=
  ((M h 7) ≤ v3 → Q v2 M) ∧ (¬ (M h 7) ≤ v3 → vp_in v3 7 ∧ ((¬ (M (h + 13 + 9 + v3.toNatClampNeg) 2) = v1 → b_X1_sheepIn_33 h Q K4 v1 v3 v2 0 M) ∧ ((M (h + 13 + 9 + v3.toNatClampNeg) 2) = v1 → b_X1_sheepIn_33 h Q K4 v1 v3 v2 (ish 1 v3) M)))
def l_X1_sheepIn_4 (h : Nat) (Q : Int32 → Mem → Prop) (v1 : Int32) : Nat → Int32 → Int32 → Mem → Prop
  | 0 => fun _ _ _ => False
  | n + 1 => B_X1_sheepIn_4 h Q v1 (l_X1_sheepIn_4 h Q v1 n)
def wp_X1_sheepIn (h : Nat) (a1 : Int32) (M : Mem) (Q : Int32 → Mem → Prop) : Prop :=
  kdT h = 1 ∧ (∃ n, l_X1_sheepIn_4 h Q a1 n 0 0 M)
set_option maxHeartbeats 4000000 in
set_option maxRecDepth 100000 in
theorem so_X1_sheepIn (l : Launch) (G : Gm) (h : Nat) (a1 : Int32) (M : Mem) (Q : Int32 → Mem → Prop) (hw : wp_X1_sheepIn h a1 M Q) : Ct l G yX1_sheepIn cX1_sheepIn 4 (some .int) ({ frames := 0, cells := 0, slots := 0, locals := 0 } : Room) [.ref (G.1 + h), .int a1] M (Qi Q) := by
  unfold wp_X1_sheepIn at hw
  obtain ⟨kh, hw⟩ := hw
  refine ct_of (by decide) (Nat.le_of_ble_eq_true rfl) ?_
  intro p e s m below meth c E_ ls H hl hP hS
  obtain ⟨hx, hb, hml, hown, hts, ht, hr, hlocks, hSt, hTb⟩ := E_
  have hl : lv_has ls 4 [(0, .ref (G.1 + h)), (1, .int a1)] := hl
  have L_4 : ∀ (v1 : Int32), ∀ (n4 : Nat) (v2 : Int32) (v3 : Int32) (M : Mem) (H : Heap) (locs : List Loc) (ls : Array Slot), l_X1_sheepIn_4 h Q v1 n4 v2 v3 M → va_P G.2.1 clsA (wl G M) H → va_S (inW G) s.heap H locs → lv_has ls 4 [(0, .ref (G.1 + h)), (1, .int v1), (2, .int v2), (3, .int v3)] → W p l e ({ frames := 0, cells := 0, slots := 0, locals := 0 } : Room) s m ([.ref (G.1 + h), .int a1] : List Value).toArray below meth c H locs 0 0 (MQ below (Pq G (Qi Q)) ([.ref (G.1 + h), .int a1] : List Value).toArray s 0 0 (inW G)) (F0 m 4 ls []) := by
    intro v1  n4
    induction n4 with
    | zero => intro v2 v3 M H locs ls  hw hP hS hl; exact False.elim hw
    | succ n4 ih4 =>
      have J_33 : ∀ (v3 : Int32) (s0 : Int32) (s1 : Int32) (M : Mem) (H : Heap) (locs : List Loc) (ls : Array Slot), b_X1_sheepIn_33 h Q (l_X1_sheepIn_4 h Q v1 n4) v1 v3 s0 s1 M → va_P G.2.1 clsA (wl G M) H → va_S (inW G) s.heap H locs → lv_has ls 4 [(0, .ref (G.1 + h)), (1, .int v1), (3, .int v3)] → W p l e ({ frames := 0, cells := 0, slots := 0, locals := 0 } : Room) s m ([.ref (G.1 + h), .int a1] : List Value).toArray below meth c H locs 0 0 (MQ below (Pq G (Qi Q)) ([.ref (G.1 + h), .int a1] : List Value).toArray s 0 0 (inW G)) (F0 m 33 ls [.int s1, .int s0]) := by
        intro v3 s0 s1 M H locs ls  hw hP hS hl
        unfold b_X1_sheepIn_33 at hw
        refine lv_ior hx hb dX1_sheepIn_33 ?_
        refine lv_topi (fun x_1 ex_1 => ?_)
        have hw := hw x_1 ex_1
        refine lv_istore_n (lv' := [(2, .int x_1), (0, .ref (G.1 + h)), (1, .int v1), (3, .int v3)]) hx hb dX1_sheepIn_34 rfl hl (by decide) rfl (fun ls hl => ?_)
        obtain ⟨x_2, ex_2⟩ : ∃ z : Int32, z = v3 + 1 := ⟨_, rfl⟩
        have hw := hw x_2 ex_2
        refine lv_iinc (v := x_2) (lv' := [(3, .int x_2), (2, .int x_1), (0, .ref (G.1 + h)), (1, .int v1)]) hx hb dX1_sheepIn_35 hl (k := 3) rfl (by rw [ex_2]; rfl) (by decide) rfl (fun ls hl => ?_)
        refine lv_goto (tgt := 4) hx hb dX1_sheepIn_38 (by decide) ?_
        exact ih4 x_1 x_2 M _ _ _ hw hP hS (lv_sub hl [2, 3, 1, 0] rfl)
      intro v2 v3 M H locs ls  hw hP hS hl
      have hw : B_X1_sheepIn_4 h Q v1 (l_X1_sheepIn_4 h Q v1 n4) v2 v3 M := hw
      unfold B_X1_sheepIn_4 at hw
      refine lv_iload_n hx hb dX1_sheepIn_4 rfl (lv_at hl 3 rfl) ?_
      refine lv_aload_n hx hb dX1_sheepIn_5 rfl (lv_at hl 0 rfl) ?_
      refine mw_get (ci := 1) (v := .int (M h 7)) (C := RX1) (T := TX1) (N := 9) hx hb ht inX1 hown hSt hP kh (by decide) (mk1 kh) rfl 7 (by decide) (ht _ wf_RX1_68) rfl rfl dX1_sheepIn_6 ?_
      refine lv_icmp_ge (tgt := 41) hx hb dX1_sheepIn_9 (by decide) (fun c_3 => ?_) (fun c_3 => ?_)
      · have hw := hw.1 c_3
        refine lv_iload_n hx hb dX1_sheepIn_41 rfl (lv_at hl 2 rfl) ?_
        exact W.iret hx hb hr (mw_end hP hSt hTb hS ⟨_, rfl, hw⟩) hS.2.2 dX1_sheepIn_42
      · have hw := hw.2 c_3
        refine lv_iload_n hx hb dX1_sheepIn_12 rfl (lv_at hl 2 rfl) ?_
        refine lv_aload_n hx hb dX1_sheepIn_13 rfl (lv_at hl 0 rfl) ?_
        refine mw_get (ci := 1) (v := .ref (G.1 + (h + 13))) (C := RX1) (T := TX1) (N := 9) hx hb ht inX1 hown hSt hP kh (by decide) (mk1 kh) rfl 4 (by decide) (ht _ wf_RX1_35) rfl rfl dX1_sheepIn_14 ?_
        refine lv_iload_n hx hb dX1_sheepIn_17 rfl (lv_at hl 3 rfl) ?_
        obtain ⟨c_4, hw⟩ := hw
        refine mw_aald13 hx hb hSt hP (ks1_4 kh) (by rw [(ln1_4 kh)]; exact c_4) dX1_sheepIn_18 ?_
        refine mw_get (ci := 5) (v := .int (M (h + 13 + 9 + v3.toNatClampNeg) 2)) (C := RX5) (T := TX5) (N := 6) hx hb ht inX5 hown hSt hP (ke13 (ks1_4 kh) (vp_lt (by rw [(ln1_4 kh)]; exact c_4))) (by decide) (mk5 (ke13 (ks1_4 kh) (vp_lt (by rw [(ln1_4 kh)]; exact c_4)))) rfl 2 (by decide) (ht _ wf_RX1_94) rfl rfl dX1_sheepIn_19 ?_
        refine lv_iload_n hx hb dX1_sheepIn_22 rfl (lv_at hl 1 rfl) ?_
        refine lv_icmp_ne (tgt := 32) hx hb dX1_sheepIn_23 (by decide) (fun c_5 => ?_) (fun c_5 => ?_)
        · have hw := hw.1 c_5
          refine lv_iconst (v := 0) hx hb dX1_sheepIn_32 (by decide) ?_
          exact J_33 v3 v2 0 M _ _ _ hw hP hS (lv_sub hl [0, 1, 3] rfl)
        · have hw := hw.2 c_5
          refine lv_iconst (v := 1) hx hb dX1_sheepIn_26 (by decide) ?_
          refine lv_iload_n hx hb dX1_sheepIn_27 rfl (lv_at hl 3 rfl) ?_
          refine lv_ishl hx hb dX1_sheepIn_28 ?_
          refine lv_goto (tgt := 33) hx hb dX1_sheepIn_29 (by decide) ?_
          exact J_33 v3 v2 (ish 1 v3) M _ _ _ hw hP hS (lv_sub hl [0, 1, 3] rfl)
  refine lv_iconst (v := 0) hx hb dX1_sheepIn_0 (by decide) ?_
  refine lv_istore_n (lv' := [(2, .int 0), (0, .ref (G.1 + h)), (1, .int a1)]) hx hb dX1_sheepIn_1 rfl hl (by decide) rfl (fun ls hl => ?_)
  refine lv_iconst (v := 0) hx hb dX1_sheepIn_2 (by decide) ?_
  refine lv_istore_n (lv' := [(3, .int 0), (2, .int 0), (0, .ref (G.1 + h)), (1, .int a1)]) hx hb dX1_sheepIn_3 rfl hl (by decide) rfl (fun ls hl => ?_)
  obtain ⟨n_, hw⟩ := hw
  exact L_4 a1 n_ 0 0 M _ _ _ hw hP hS (lv_sub hl [2, 3, 1, 0] rfl)
def b_X1_outFor_127 (h : Nat) (Q : Int32 → Mem → Prop) (K22 : Int32 → Int32 → Int32 → Mem → Prop) (v1 : Int32) (v2 : Int32) (v3 : Int32) (v4 : Int32) (M : Mem) : Prop :=
  ∀ x_1 : Int32, x_1 = v4 + 1 → K22 v2 v3 x_1 M
def b_X1_outFor_92 (h : Nat) (Q : Int32 → Mem → Prop) (K22 : Int32 → Int32 → Int32 → Mem → Prop) (v1 : Int32) (v2 : Int32) (v3 : Int32) (v4 : Int32) (r5 : Nat) (v6 : Int32) (s0 : Int32) (M : Mem) : Prop :=
  (s0 = 0 → b_X1_outFor_127 h Q K22 v1 v2 v3 v4 M) ∧ (¬ s0 = 0 → wp_X0_gives (h + 6) v6 (M r5 3) (M r5 1) M (fun r_4 M_3 => (r_4 = 0 → b_X1_outFor_127 h Q K22 v1 v2 v3 v4 M_3) ∧ (¬ r_4 = 0 → b_X1_outFor_127 h Q K22 v1 v4 v6 v4 M_3)))
def b_X1_outFor_91 (h : Nat) (Q : Int32 → Mem → Prop) (K22 : Int32 → Int32 → Int32 → Mem → Prop) (v1 : Int32) (v2 : Int32) (v3 : Int32) (v4 : Int32) (r5 : Nat) (v6 : Int32) (M : Mem) : Prop :=
  b_X1_outFor_92 h Q K22 v1 v2 v3 v4 r5 v6 0 M
def B_X1_outFor_22 (h : Nat) (Q : Int32 → Mem → Prop) (v1 : Int32) (K22 : Int32 → Int32 → Int32 → Mem → Prop) (v2 : Int32) (v3 : Int32) (v4 : Int32) (M : Mem) : Prop :=
  ((M h 7) ≤ v4 → Q v2 M) ∧ (¬ (M h 7) ≤ v4 → vp_in v4 7 ∧ (∀ q_8, q_8 = h + 13 + 9 + v4.toNatClampNeg → vp_in v1 6 ∧ (∀ x_10, x_10 = iab ((M q_8 2) - (M (h + 12 + 4 + v1.toNatClampNeg) 0)) → wp_X5_isSought q_8 M (fun r_12 M_11 => (r_12 = 0 → b_X1_outFor_91 h Q K22 v1 v2 v3 v4 q_8 x_10 M_11) ∧ (¬ r_12 = 0 → (¬ ((isr (M_11 q_8 4) v1) &&& 1) = 1 → b_X1_outFor_91 h Q K22 v1 v2 v3 v4 q_8 x_10 M_11) ∧ (((isr (M_11 q_8 4) v1) &&& 1) = 1 → (v3 ≤ x_10 → b_X1_outFor_91 h Q K22 v1 v2 v3 v4 q_8 x_10 M_11) ∧ (¬ v3 ≤ x_10 → b_X1_outFor_92 h Q K22 v1 v2 v3 v4 q_8 x_10 1 M_11)))))))
def l_X1_outFor_22 (h : Nat) (Q : Int32 → Mem → Prop) (v1 : Int32) : Nat → Int32 → Int32 → Int32 → Mem → Prop
  | 0 => fun _ _ _ _ => False
  | n + 1 => B_X1_outFor_22 h Q v1 (l_X1_outFor_22 h Q v1 n)
def wp_X1_outFor (h : Nat) (a1 : Int32) (M : Mem) (Q : Int32 → Mem → Prop) : Prop :=
  kdT h = 1 ∧ ((a1 < 0 → Q (-1) M) ∧ (¬ a1 < 0 → (a1 < (M h 6) → ∃ n, l_X1_outFor_22 h Q a1 n (-1) 10 0 M) ∧ (¬ a1 < (M h 6) → Q (-1) M)))
set_option maxHeartbeats 4000000 in
set_option maxRecDepth 100000 in
theorem so_X1_outFor (l : Launch) (G : Gm) (h : Nat) (a1 : Int32) (M : Mem) (Q : Int32 → Mem → Prop) (hw : wp_X1_outFor h a1 M Q) : Ct l G yX1_outFor cX1_outFor 8 (some .int) ({ frames := 3, cells := 0, slots := 0, locals := 83 } : Room) [.ref (G.1 + h), .int a1] M (Qi Q) := by
  unfold wp_X1_outFor at hw
  obtain ⟨kh, hw⟩ := hw
  refine ct_of (by decide) (Nat.le_of_ble_eq_true rfl) ?_
  intro p e s m below meth c E_ ls H hl hP hS
  obtain ⟨hx, hb, hml, hown, hts, ht, hr, hlocks, hSt, hTb⟩ := E_
  have hl : lv_has ls 8 [(0, .ref (G.1 + h)), (1, .int a1)] := hl
  have L_22 : ∀ (v1 : Int32), ∀ (n22 : Nat) (v2 : Int32) (v3 : Int32) (v4 : Int32) (M : Mem) (H : Heap) (locs : List Loc) (ls : Array Slot), l_X1_outFor_22 h Q v1 n22 v2 v3 v4 M → va_P G.2.1 clsA (wl G M) H → va_S (inW G) s.heap H locs → lv_has ls 8 [(0, .ref (G.1 + h)), (1, .int v1), (2, .int v2), (3, .int v3), (4, .int v4)] → W p l e ({ frames := 3, cells := 0, slots := 0, locals := 83 } : Room) s m ([.ref (G.1 + h), .int a1] : List Value).toArray below meth c H locs 0 0 (MQ below (Pq G (Qi Q)) ([.ref (G.1 + h), .int a1] : List Value).toArray s 0 0 (inW G)) (F0 m 22 ls []) := by
    intro v1  n22
    induction n22 with
    | zero => intro v2 v3 v4 M H locs ls  hw hP hS hl; exact False.elim hw
    | succ n22 ih22 =>
      have J_127 : ∀ (v2 : Int32) (v3 : Int32) (v4 : Int32) (M : Mem) (H : Heap) (locs : List Loc) (ls : Array Slot), b_X1_outFor_127 h Q (l_X1_outFor_22 h Q v1 n22) v1 v2 v3 v4 M → va_P G.2.1 clsA (wl G M) H → va_S (inW G) s.heap H locs → lv_has ls 8 [(0, .ref (G.1 + h)), (1, .int v1), (2, .int v2), (3, .int v3), (4, .int v4)] → W p l e ({ frames := 3, cells := 0, slots := 0, locals := 83 } : Room) s m ([.ref (G.1 + h), .int a1] : List Value).toArray below meth c H locs 0 0 (MQ below (Pq G (Qi Q)) ([.ref (G.1 + h), .int a1] : List Value).toArray s 0 0 (inW G)) (F0 m 127 ls []) := by
        intro v2 v3 v4 M H locs ls  hw hP hS hl
        unfold b_X1_outFor_127 at hw
        obtain ⟨x_1, ex_1⟩ : ∃ z : Int32, z = v4 + 1 := ⟨_, rfl⟩
        have hw := hw x_1 ex_1
        refine lv_iinc (v := x_1) (lv' := [(4, .int x_1), (0, .ref (G.1 + h)), (1, .int v1), (2, .int v2), (3, .int v3)]) hx hb dX1_outFor_127 hl (k := 4) rfl (by rw [ex_1]; rfl) (by decide) rfl (fun ls hl => ?_)
        refine lv_goto (tgt := 22) hx hb dX1_outFor_130 (by decide) ?_
        exact ih22 v2 v3 x_1 M _ _ _ hw hP hS (lv_sub hl [1, 2, 3, 4, 0] rfl)
      have J_92 : ∀ (v2 : Int32) (v3 : Int32) (v4 : Int32) (r5 : Nat) (v6 : Int32) (s0 : Int32) (M : Mem) (H : Heap) (locs : List Loc) (ls : Array Slot), kdT r5 = 5 → b_X1_outFor_92 h Q (l_X1_outFor_22 h Q v1 n22) v1 v2 v3 v4 r5 v6 s0 M → va_P G.2.1 clsA (wl G M) H → va_S (inW G) s.heap H locs → lv_has ls 8 [(0, .ref (G.1 + h)), (1, .int v1), (2, .int v2), (3, .int v3), (4, .int v4), (5, .ref (G.1 + r5)), (6, .int v6)] → W p l e ({ frames := 3, cells := 0, slots := 0, locals := 83 } : Room) s m ([.ref (G.1 + h), .int a1] : List Value).toArray below meth c H locs 0 0 (MQ below (Pq G (Qi Q)) ([.ref (G.1 + h), .int a1] : List Value).toArray s 0 0 (inW G)) (F0 m 92 ls [.int s0]) := by
        intro v2 v3 v4 r5 v6 s0 M H locs ls kr5 hw hP hS hl
        unfold b_X1_outFor_92 at hw
        refine lv_istore (lv' := [(7, .int s0), (0, .ref (G.1 + h)), (1, .int v1), (2, .int v2), (3, .int v3), (4, .int v4), (5, .ref (G.1 + r5)), (6, .int v6)]) hx hb dX1_outFor_92 hl (by decide) rfl (fun ls hl => ?_)
        refine lv_iload hx hb dX1_outFor_94 (lv_at hl 0 rfl) ?_
        refine lv_if_eq (tgt := 127) hx hb dX1_outFor_96 (by decide) (fun c_2 => ?_) (fun c_2 => ?_)
        · have hw := hw.1 c_2
          exact J_127 v2 v3 v4 M _ _ _ hw hP hS (lv_sub hl [1, 2, 3, 4, 5] rfl)
        · have hw := hw.2 c_2
          refine lv_aload_n hx hb dX1_outFor_99 rfl (lv_at hl 1 rfl) ?_
          refine mw_get (ci := 1) (v := .ref (G.1 + (h + 6))) (C := RX1) (T := TX1) (N := 9) hx hb ht inX1 hown hSt hP kh (by decide) (mk1 kh) rfl 1 (by decide) (ht _ wf_RX1_20) rfl rfl dX1_outFor_100 ?_
          refine lv_iload hx hb dX1_outFor_103 (lv_at hl 7 rfl) ?_
          refine lv_aload hx hb dX1_outFor_105 (lv_at hl 6 rfl) ?_
          refine mw_get (ci := 5) (v := .int (M r5 3)) (C := RX5) (T := TX5) (N := 6) hx hb ht inX5 hown hSt hP kr5 (by decide) (mk5 kr5) rfl 3 (by decide) (ht _ wf_RX1_114) rfl rfl dX1_outFor_107 ?_
          refine lv_aload hx hb dX1_outFor_110 (lv_at hl 6 rfl) ?_
          refine mw_get (ci := 5) (v := .int (M r5 1)) (C := RX5) (T := TX5) (N := 6) hx hb ht inX5 hown hSt hP kr5 (by decide) (mk5 kr5) rfl 1 (by decide) (ht _ wf_RX1_117) rfl rfl dX1_outFor_112 ?_
          refine mw_V (As := [.int v6, .int (M r5 3), .int (M r5 1)]) (rest := []) (T := TX0) (N := 3) (n := 3) ⟨hx, hb, hml, hown, hts⟩ (so_X0_gives l G (h + 6) v6 (M r5 3) (M r5 1) M _ hw) wm_RX1_120 wi_yX0_gives wv_yX0_gives wn_RX0 wc_yX0_gives (by decide) ⟨Nat.le_of_ble_eq_true rfl, Nat.le_of_ble_eq_true rfl⟩ ⟨rfl, rfl⟩ (ks1_1 kh) (by decide) (mk0 (ks1_1 kh)) rfl hSt hTb hP hS rfl hl.1 rfl (Nat.le_of_ble_eq_true rfl) dX1_outFor_115 ⟨Nat.le_refl 0, Nat.le_refl 0⟩ (fun rr_ M_3 H locs hq hP hS => ?_)
          obtain ⟨r_4, rfl, hw⟩ := hq
          refine lv_if_eq (tgt := 127) hx hb dX1_outFor_118 (by decide) (fun c_5 => ?_) (fun c_5 => ?_)
          · have hw := hw.1 c_5
            exact J_127 v2 v3 v4 M_3 _ _ _ hw hP hS (lv_sub hl [1, 2, 3, 4, 5] rfl)
          · have hw := hw.2 c_5
            refine lv_iload hx hb dX1_outFor_121 (lv_at hl 5 rfl) ?_
            refine lv_istore_n (lv' := [(2, .int v4), (7, .int s0), (0, .ref (G.1 + h)), (1, .int v1), (3, .int v3), (4, .int v4), (5, .ref (G.1 + r5)), (6, .int v6)]) hx hb dX1_outFor_123 rfl hl (by decide) rfl (fun ls hl => ?_)
            refine lv_iload hx hb dX1_outFor_124 (lv_at hl 7 rfl) ?_
            refine lv_istore_n (lv' := [(3, .int v6), (2, .int v4), (7, .int s0), (0, .ref (G.1 + h)), (1, .int v1), (4, .int v4), (5, .ref (G.1 + r5)), (6, .int v6)]) hx hb dX1_outFor_126 rfl hl (by decide) rfl (fun ls hl => ?_)
            exact J_127 v4 v6 v4 M_3 _ _ _ hw hP hS (lv_sub hl [3, 4, 1, 0, 5] rfl)
      have J_91 : ∀ (v2 : Int32) (v3 : Int32) (v4 : Int32) (r5 : Nat) (v6 : Int32) (M : Mem) (H : Heap) (locs : List Loc) (ls : Array Slot), kdT r5 = 5 → b_X1_outFor_91 h Q (l_X1_outFor_22 h Q v1 n22) v1 v2 v3 v4 r5 v6 M → va_P G.2.1 clsA (wl G M) H → va_S (inW G) s.heap H locs → lv_has ls 8 [(0, .ref (G.1 + h)), (1, .int v1), (2, .int v2), (3, .int v3), (4, .int v4), (5, .ref (G.1 + r5)), (6, .int v6)] → W p l e ({ frames := 3, cells := 0, slots := 0, locals := 83 } : Room) s m ([.ref (G.1 + h), .int a1] : List Value).toArray below meth c H locs 0 0 (MQ below (Pq G (Qi Q)) ([.ref (G.1 + h), .int a1] : List Value).toArray s 0 0 (inW G)) (F0 m 91 ls []) := by
        intro v2 v3 v4 r5 v6 M H locs ls kr5 hw hP hS hl
        unfold b_X1_outFor_91 at hw
        refine lv_iconst (v := 0) hx hb dX1_outFor_91 (by decide) ?_
        exact J_92 v2 v3 v4 r5 v6 0 M _ _ _ kr5 hw hP hS (lv_sub hl [0, 1, 2, 3, 4, 5, 6] rfl)
      intro v2 v3 v4 M H locs ls  hw hP hS hl
      have hw : B_X1_outFor_22 h Q v1 (l_X1_outFor_22 h Q v1 n22) v2 v3 v4 M := hw
      unfold B_X1_outFor_22 at hw
      refine lv_iload hx hb dX1_outFor_22 (lv_at hl 4 rfl) ?_
      refine lv_aload_n hx hb dX1_outFor_24 rfl (lv_at hl 0 rfl) ?_
      refine mw_get (ci := 1) (v := .int (M h 7)) (C := RX1) (T := TX1) (N := 9) hx hb ht inX1 hown hSt hP kh (by decide) (mk1 kh) rfl 7 (by decide) (ht _ wf_RX1_68) rfl rfl dX1_outFor_25 ?_
      refine lv_icmp_ge (tgt := 133) hx hb dX1_outFor_28 (by decide) (fun c_6 => ?_) (fun c_6 => ?_)
      · have hw := hw.1 c_6
        refine lv_iload_n hx hb dX1_outFor_133 rfl (lv_at hl 2 rfl) ?_
        exact W.iret hx hb hr (mw_end hP hSt hTb hS ⟨_, rfl, hw⟩) hS.2.2 dX1_outFor_134
      · have hw := hw.2 c_6
        refine lv_aload_n hx hb dX1_outFor_31 rfl (lv_at hl 0 rfl) ?_
        refine mw_get (ci := 1) (v := .ref (G.1 + (h + 13))) (C := RX1) (T := TX1) (N := 9) hx hb ht inX1 hown hSt hP kh (by decide) (mk1 kh) rfl 4 (by decide) (ht _ wf_RX1_35) rfl rfl dX1_outFor_32 ?_
        refine lv_iload hx hb dX1_outFor_35 (lv_at hl 4 rfl) ?_
        obtain ⟨c_7, hw⟩ := hw
        refine mw_aald13 hx hb hSt hP (ks1_4 kh) (by rw [(ln1_4 kh)]; exact c_7) dX1_outFor_37 ?_
        obtain ⟨q_8, eq_8⟩ : ∃ z, z = h + 13 + 9 + v4.toNatClampNeg := ⟨_, rfl⟩
        have hw := hw q_8 eq_8
        have kq_8 : kdT q_8 = 5 := by rw [eq_8]; exact (ke13 (ks1_4 kh) (vp_lt (by rw [(ln1_4 kh)]; exact c_7)))
        rw [← eq_8]
        refine lv_astore (lv' := [(5, .ref (G.1 + q_8)), (0, .ref (G.1 + h)), (1, .int v1), (2, .int v2), (3, .int v3), (4, .int v4)]) hx hb dX1_outFor_38 hl (by decide) rfl (fun ls hl => ?_)
        refine lv_aload hx hb dX1_outFor_40 (lv_at hl 0 rfl) ?_
        refine mw_get (ci := 5) (v := .int (M q_8 2)) (C := RX5) (T := TX5) (N := 6) hx hb ht inX5 hown hSt hP kq_8 (by decide) (mk5 kq_8) rfl 2 (by decide) (ht _ wf_RX1_94) rfl rfl dX1_outFor_42 ?_
        refine lv_aload_n hx hb dX1_outFor_45 rfl (lv_at hl 1 rfl) ?_
        refine mw_get (ci := 1) (v := .ref (G.1 + (h + 12))) (C := RX1) (T := TX1) (N := 9) hx hb ht inX1 hown hSt hP kh (by decide) (mk1 kh) rfl 3 (by decide) (ht _ wf_RX1_29) rfl rfl dX1_outFor_46 ?_
        refine lv_iload_n hx hb dX1_outFor_49 rfl (lv_at hl 2 rfl) ?_
        obtain ⟨c_9, hw⟩ := hw
        refine mw_aald12 hx hb hSt hP (ks1_3 kh) (by rw [(ln1_3 kh)]; exact c_9) dX1_outFor_50 ?_
        refine mw_get (ci := 4) (v := .int (M (h + 12 + 4 + v1.toNatClampNeg) 0)) (C := RX4) (T := TX4) (N := 2) hx hb ht inX4 hown hSt hP (ke12 (ks1_3 kh) (vp_lt (by rw [(ln1_3 kh)]; exact c_9))) (by decide) (mk4 (ke12 (ks1_3 kh) (vp_lt (by rw [(ln1_3 kh)]; exact c_9)))) rfl 0 (by decide) (ht _ wf_RX1_91) rfl rfl dX1_outFor_51 ?_
        refine lv_isub hx hb dX1_outFor_54 ?_
        refine va_mabs (rest := []) hx hb (hml.trans hl.1.symm) hown (ht _ wm_RX1_111) (ht _ wt_yJ9_abs_0f7a4) (ht _ wn_RJ9) (ht _ wc_yJ9_abs_0f7a4) (Nat.le_of_ble_eq_true rfl) (Nat.le_of_ble_eq_true rfl) (Nat.zero_le _) (Nat.zero_le _) dX1_outFor_55 ?_
        refine lv_topi (fun x_10 ex_10 => ?_)
        have hw := hw x_10 ex_10
        refine lv_istore (lv' := [(6, .int x_10), (5, .ref (G.1 + q_8)), (0, .ref (G.1 + h)), (1, .int v1), (2, .int v2), (3, .int v3), (4, .int v4)]) hx hb dX1_outFor_58 hl (by decide) rfl (fun ls hl => ?_)
        refine lv_aload hx hb dX1_outFor_60 (lv_at hl 1 rfl) ?_
        refine mw_V (As := []) (rest := []) (T := TX5) (N := 6) (n := 0) ⟨hx, hb, hml, hown, hts⟩ (so_X5_isSought l G q_8 M _ hw) wm_RX1_105 wi_yX5_isSought wv_yX5_isSought wn_RX5 wc_yX5_isSought (by decide) ⟨Nat.le_of_ble_eq_true rfl, Nat.le_of_ble_eq_true rfl⟩ ⟨rfl, rfl⟩ kq_8 (by decide) (mk5 kq_8) rfl hSt hTb hP hS rfl hl.1 rfl (Nat.le_of_ble_eq_true rfl) dX1_outFor_62 ⟨Nat.le_refl 0, Nat.le_refl 0⟩ (fun rr_ M_11 H locs hq hP hS => ?_)
        obtain ⟨r_12, rfl, hw⟩ := hq
        refine lv_if_eq (tgt := 91) hx hb dX1_outFor_65 (by decide) (fun c_13 => ?_) (fun c_13 => ?_)
        · have hw := hw.1 c_13
          exact J_91 v2 v3 v4 q_8 x_10 M_11 _ _ _ kq_8 hw hP hS (lv_sub hl [2, 3, 4, 5, 6, 1, 0] rfl)
        · have hw := hw.2 c_13
          refine lv_aload hx hb dX1_outFor_68 (lv_at hl 1 rfl) ?_
          refine mw_get (ci := 5) (v := .int (M_11 q_8 4)) (C := RX5) (T := TX5) (N := 6) hx hb ht inX5 hown hSt hP kq_8 (by decide) (mk5 kq_8) rfl 4 (by decide) (ht _ wf_RX1_108) rfl rfl dX1_outFor_70 ?_
          refine lv_iload_n hx hb dX1_outFor_73 rfl (lv_at hl 3 rfl) ?_
          refine lv_ishr hx hb dX1_outFor_74 ?_
          refine lv_iconst (v := 1) hx hb dX1_outFor_75 (by decide) ?_
          refine lv_iand hx hb dX1_outFor_76 ?_
          refine lv_iconst (v := 1) hx hb dX1_outFor_77 (by decide) ?_
          refine lv_icmp_ne (tgt := 91) hx hb dX1_outFor_78 (by decide) (fun c_14 => ?_) (fun c_14 => ?_)
          · have hw := hw.1 c_14
            exact J_91 v2 v3 v4 q_8 x_10 M_11 _ _ _ kq_8 hw hP hS (lv_sub hl [2, 3, 4, 5, 6, 1, 0] rfl)
          · have hw := hw.2 c_14
            refine lv_iload hx hb dX1_outFor_81 (lv_at hl 0 rfl) ?_
            refine lv_iload_n hx hb dX1_outFor_83 rfl (lv_at hl 5 rfl) ?_
            refine lv_icmp_ge (tgt := 91) hx hb dX1_outFor_84 (by decide) (fun c_15 => ?_) (fun c_15 => ?_)
            · have hw := hw.1 c_15
              exact J_91 v2 v3 v4 q_8 x_10 M_11 _ _ _ kq_8 hw hP hS (lv_sub hl [2, 3, 4, 5, 6, 1, 0] rfl)
            · have hw := hw.2 c_15
              refine lv_iconst (v := 1) hx hb dX1_outFor_87 (by decide) ?_
              refine lv_goto (tgt := 92) hx hb dX1_outFor_88 (by decide) ?_
              exact J_92 v2 v3 v4 q_8 x_10 1 M_11 _ _ _ kq_8 hw hP hS (lv_sub hl [2, 3, 4, 5, 6, 1, 0] rfl)
  refine lv_iload_n hx hb dX1_outFor_0 rfl (lv_at hl 1 rfl) ?_
  refine lv_if_lt (tgt := 12) hx hb dX1_outFor_1 (by decide) (fun c_16 => ?_) (fun c_16 => ?_)
  · have hw := hw.1 c_16
    refine lv_iconst (v := (-1)) hx hb dX1_outFor_12 (by decide) ?_
    exact W.iret hx hb hr (mw_end hP hSt hTb hS ⟨_, rfl, hw⟩) hS.2.2 dX1_outFor_13
  · have hw := hw.2 c_16
    refine lv_iload_n hx hb dX1_outFor_4 rfl (lv_at hl 1 rfl) ?_
    refine lv_aload_n hx hb dX1_outFor_5 rfl (lv_at hl 0 rfl) ?_
    refine mw_get (ci := 1) (v := .int (M h 6)) (C := RX1) (T := TX1) (N := 9) hx hb ht inX1 hown hSt hP kh (by decide) (mk1 kh) rfl 6 (by decide) (ht _ wf_RX1_55) rfl rfl dX1_outFor_6 ?_
    refine lv_icmp_lt (tgt := 14) hx hb dX1_outFor_9 (by decide) (fun c_17 => ?_) (fun c_17 => ?_)
    · have hw := hw.1 c_17
      refine lv_iconst (v := (-1)) hx hb dX1_outFor_14 (by decide) ?_
      refine lv_istore_n (lv' := [(2, .int (-1)), (0, .ref (G.1 + h)), (1, .int a1)]) hx hb dX1_outFor_15 rfl hl (by decide) rfl (fun ls hl => ?_)
      refine lv_bipush (v := 10) hx hb dX1_outFor_16 (by decide) ?_
      refine lv_istore_n (lv' := [(3, .int 10), (2, .int (-1)), (0, .ref (G.1 + h)), (1, .int a1)]) hx hb dX1_outFor_18 rfl hl (by decide) rfl (fun ls hl => ?_)
      refine lv_iconst (v := 0) hx hb dX1_outFor_19 (by decide) ?_
      refine lv_istore (lv' := [(4, .int 0), (3, .int 10), (2, .int (-1)), (0, .ref (G.1 + h)), (1, .int a1)]) hx hb dX1_outFor_20 hl (by decide) rfl (fun ls hl => ?_)
      obtain ⟨n_, hw⟩ := hw
      exact L_22 a1 n_ (-1) 10 0 M _ _ _ hw hP hS (lv_sub hl [3, 4, 2, 1, 0] rfl)
    · have hw := hw.2 c_17
      refine lv_iconst (v := (-1)) hx hb dX1_outFor_12 (by decide) ?_
      exact W.iret hx hb hr (mw_end hP hSt hTb hS ⟨_, rfl, hw⟩) hS.2.2 dX1_outFor_13
def wp_X1_lawOf (h : Nat) (a1 : Int32) (M : Mem) (Q : Nat → Mem → Prop) : Prop :=
  kdT h = 1 ∧ ((¬ a1 = 0 → Q (h + 6) M) ∧ (a1 = 0 → Q (h + 1) M))
set_option maxHeartbeats 4000000 in
set_option maxRecDepth 100000 in
theorem so_X1_lawOf (l : Launch) (G : Gm) (h : Nat) (a1 : Int32) (M : Mem) (Q : Nat → Mem → Prop) (hw : wp_X1_lawOf h a1 M Q) : Ct l G yX1_lawOf cX1_lawOf 2 (some (.object "RaddleMarks$Law")) ({ frames := 0, cells := 0, slots := 0, locals := 0 } : Room) [.ref (G.1 + h), .int a1] M (Qa G Q) := by
  unfold wp_X1_lawOf at hw
  obtain ⟨kh, hw⟩ := hw
  refine ct_of (by decide) (Nat.le_of_ble_eq_true rfl) ?_
  intro p e s m below meth c E_ ls H hl hP hS
  obtain ⟨hx, hb, hml, hown, hts, ht, hr, hlocks, hSt, hTb⟩ := E_
  have hl : lv_has ls 2 [(0, .ref (G.1 + h)), (1, .int a1)] := hl
  refine lv_iload_n hx hb dX1_lawOf_0 rfl (lv_at hl 1 rfl) ?_
  refine lv_if_ne (tgt := 11) hx hb dX1_lawOf_1 (by decide) (fun c_1 => ?_) (fun c_1 => ?_)
  · have hw := hw.1 c_1
    refine lv_aload_n hx hb dX1_lawOf_11 rfl (lv_at hl 0 rfl) ?_
    refine mw_get (ci := 1) (v := .ref (G.1 + (h + 6))) (C := RX1) (T := TX1) (N := 9) hx hb ht inX1 hown hSt hP kh (by decide) (mk1 kh) rfl 1 (by decide) (ht _ wf_RX1_20) rfl rfl dX1_lawOf_12 ?_
    exact W.aret hx hb hr (Or.inl ⟨_, rfl⟩) (Or.inr ⟨_, rfl⟩) (mw_end hP hSt hTb hS ⟨_, rfl, hw⟩) hS.2.2 dX1_lawOf_15
  · have hw := hw.2 c_1
    refine lv_aload_n hx hb dX1_lawOf_4 rfl (lv_at hl 0 rfl) ?_
    refine mw_get (ci := 1) (v := .ref (G.1 + (h + 1))) (C := RX1) (T := TX1) (N := 9) hx hb ht inX1 hown hSt hP kh (by decide) (mk1 kh) rfl 0 (by decide) (ht _ wf_RX1_14) rfl rfl dX1_lawOf_5 ?_
    refine lv_goto (tgt := 15) hx hb dX1_lawOf_8 (by decide) ?_
    exact W.aret hx hb hr (Or.inl ⟨_, rfl⟩) (Or.inr ⟨_, rfl⟩) (mw_end hP hSt hTb hS ⟨_, rfl, hw⟩) hS.2.2 dX1_lawOf_15
def b_X1_foundSet_32 (h : Nat) (Q : Int32 → Mem → Prop) (K4 : Int32 → Int32 → Mem → Prop) (v2 : Int32) (s0 : Int32) (s1 : Int32) (M : Mem) : Prop :=
  ∀ x_1, x_1 = s0 ||| s1 → ∀ x_2 : Int32, x_2 = v2 + 1 → K4 x_1 x_2 M
def B_X1_foundSet_4 (h : Nat) (Q : Int32 → Mem → Prop) (K4 : Int32 → Int32 → Mem → Prop) (v1 : Int32) (v2 : Int32) (M : Mem) : Prop :=
  ((M h 7) ≤ v2 → Q v1 M) ∧ (¬ (M h 7) ≤ v2 → vp_in v2 7 ∧ (((M (h + 13 + 9 + v2.toNatClampNeg) 5) = 0 → b_X1_foundSet_32 h Q K4 v2 v1 0 M) ∧ (¬ (M (h + 13 + 9 + v2.toNatClampNeg) 5) = 0 → b_X1_foundSet_32 h Q K4 v2 v1 (ish 1 v2) M)))
def l_X1_foundSet_4 (h : Nat) (Q : Int32 → Mem → Prop) : Nat → Int32 → Int32 → Mem → Prop
  | 0 => fun _ _ _ => False
  | n + 1 => B_X1_foundSet_4 h Q (l_X1_foundSet_4 h Q n)
def wp_X1_foundSet (h : Nat) (M : Mem) (Q : Int32 → Mem → Prop) : Prop :=
  kdT h = 1 ∧ (∃ n, l_X1_foundSet_4 h Q n 0 0 M)
set_option maxHeartbeats 4000000 in
set_option maxRecDepth 100000 in
theorem so_X1_foundSet (l : Launch) (G : Gm) (h : Nat) (M : Mem) (Q : Int32 → Mem → Prop) (hw : wp_X1_foundSet h M Q) : Ct l G yX1_foundSet cX1_foundSet 3 (some .int) ({ frames := 0, cells := 0, slots := 0, locals := 0 } : Room) [.ref (G.1 + h)] M (Qi Q) := by
  unfold wp_X1_foundSet at hw
  obtain ⟨kh, hw⟩ := hw
  refine ct_of (by decide) (Nat.le_of_ble_eq_true rfl) ?_
  intro p e s m below meth c E_ ls H hl hP hS
  obtain ⟨hx, hb, hml, hown, hts, ht, hr, hlocks, hSt, hTb⟩ := E_
  have hl : lv_has ls 3 [(0, .ref (G.1 + h))] := hl
  have L_4 : ∀ (n4 : Nat) (v1 : Int32) (v2 : Int32) (M : Mem) (H : Heap) (locs : List Loc) (ls : Array Slot), l_X1_foundSet_4 h Q n4 v1 v2 M → va_P G.2.1 clsA (wl G M) H → va_S (inW G) s.heap H locs → lv_has ls 3 [(0, .ref (G.1 + h)), (1, .int v1), (2, .int v2)] → W p l e ({ frames := 0, cells := 0, slots := 0, locals := 0 } : Room) s m ([.ref (G.1 + h)] : List Value).toArray below meth c H locs 0 0 (MQ below (Pq G (Qi Q)) ([.ref (G.1 + h)] : List Value).toArray s 0 0 (inW G)) (F0 m 4 ls []) := by
    intro   n4
    induction n4 with
    | zero => intro v1 v2 M H locs ls  hw hP hS hl; exact False.elim hw
    | succ n4 ih4 =>
      have J_32 : ∀ (v2 : Int32) (s0 : Int32) (s1 : Int32) (M : Mem) (H : Heap) (locs : List Loc) (ls : Array Slot), b_X1_foundSet_32 h Q (l_X1_foundSet_4 h Q n4) v2 s0 s1 M → va_P G.2.1 clsA (wl G M) H → va_S (inW G) s.heap H locs → lv_has ls 3 [(0, .ref (G.1 + h)), (2, .int v2)] → W p l e ({ frames := 0, cells := 0, slots := 0, locals := 0 } : Room) s m ([.ref (G.1 + h)] : List Value).toArray below meth c H locs 0 0 (MQ below (Pq G (Qi Q)) ([.ref (G.1 + h)] : List Value).toArray s 0 0 (inW G)) (F0 m 32 ls [.int s1, .int s0]) := by
        intro v2 s0 s1 M H locs ls  hw hP hS hl
        unfold b_X1_foundSet_32 at hw
        refine lv_ior hx hb dX1_foundSet_32 ?_
        refine lv_topi (fun x_1 ex_1 => ?_)
        have hw := hw x_1 ex_1
        refine lv_istore_n (lv' := [(1, .int x_1), (0, .ref (G.1 + h)), (2, .int v2)]) hx hb dX1_foundSet_33 rfl hl (by decide) rfl (fun ls hl => ?_)
        obtain ⟨x_2, ex_2⟩ : ∃ z : Int32, z = v2 + 1 := ⟨_, rfl⟩
        have hw := hw x_2 ex_2
        refine lv_iinc (v := x_2) (lv' := [(2, .int x_2), (1, .int x_1), (0, .ref (G.1 + h))]) hx hb dX1_foundSet_34 hl (k := 2) rfl (by rw [ex_2]; rfl) (by decide) rfl (fun ls hl => ?_)
        refine lv_goto (tgt := 4) hx hb dX1_foundSet_37 (by decide) ?_
        exact ih4 x_1 x_2 M _ _ _ hw hP hS (lv_sub hl [2, 1, 0] rfl)
      intro v1 v2 M H locs ls  hw hP hS hl
      have hw : B_X1_foundSet_4 h Q (l_X1_foundSet_4 h Q n4) v1 v2 M := hw
      unfold B_X1_foundSet_4 at hw
      refine lv_iload_n hx hb dX1_foundSet_4 rfl (lv_at hl 2 rfl) ?_
      refine lv_aload_n hx hb dX1_foundSet_5 rfl (lv_at hl 0 rfl) ?_
      refine mw_get (ci := 1) (v := .int (M h 7)) (C := RX1) (T := TX1) (N := 9) hx hb ht inX1 hown hSt hP kh (by decide) (mk1 kh) rfl 7 (by decide) (ht _ wf_RX1_68) rfl rfl dX1_foundSet_6 ?_
      refine lv_icmp_ge (tgt := 40) hx hb dX1_foundSet_9 (by decide) (fun c_3 => ?_) (fun c_3 => ?_)
      · have hw := hw.1 c_3
        refine lv_iload_n hx hb dX1_foundSet_40 rfl (lv_at hl 1 rfl) ?_
        exact W.iret hx hb hr (mw_end hP hSt hTb hS ⟨_, rfl, hw⟩) hS.2.2 dX1_foundSet_41
      · have hw := hw.2 c_3
        refine lv_iload_n hx hb dX1_foundSet_12 rfl (lv_at hl 1 rfl) ?_
        refine lv_aload_n hx hb dX1_foundSet_13 rfl (lv_at hl 0 rfl) ?_
        refine mw_get (ci := 1) (v := .ref (G.1 + (h + 13))) (C := RX1) (T := TX1) (N := 9) hx hb ht inX1 hown hSt hP kh (by decide) (mk1 kh) rfl 4 (by decide) (ht _ wf_RX1_35) rfl rfl dX1_foundSet_14 ?_
        refine lv_iload_n hx hb dX1_foundSet_17 rfl (lv_at hl 2 rfl) ?_
        obtain ⟨c_4, hw⟩ := hw
        refine mw_aald13 hx hb hSt hP (ks1_4 kh) (by rw [(ln1_4 kh)]; exact c_4) dX1_foundSet_18 ?_
        refine mw_get (ci := 5) (v := .int (M (h + 13 + 9 + v2.toNatClampNeg) 5)) (C := RX5) (T := TX5) (N := 6) hx hb ht inX5 hown hSt hP (ke13 (ks1_4 kh) (vp_lt (by rw [(ln1_4 kh)]; exact c_4))) (by decide) (mk5 (ke13 (ks1_4 kh) (vp_lt (by rw [(ln1_4 kh)]; exact c_4)))) rfl 5 (by decide) (ht _ wf_RX1_97) rfl rfl dX1_foundSet_19 ?_
        refine lv_if_eq (tgt := 31) hx hb dX1_foundSet_22 (by decide) (fun c_5 => ?_) (fun c_5 => ?_)
        · have hw := hw.1 c_5
          refine lv_iconst (v := 0) hx hb dX1_foundSet_31 (by decide) ?_
          exact J_32 v2 v1 0 M _ _ _ hw hP hS (lv_sub hl [0, 2] rfl)
        · have hw := hw.2 c_5
          refine lv_iconst (v := 1) hx hb dX1_foundSet_25 (by decide) ?_
          refine lv_iload_n hx hb dX1_foundSet_26 rfl (lv_at hl 2 rfl) ?_
          refine lv_ishl hx hb dX1_foundSet_27 ?_
          refine lv_goto (tgt := 32) hx hb dX1_foundSet_28 (by decide) ?_
          exact J_32 v2 v1 (ish 1 v2) M _ _ _ hw hP hS (lv_sub hl [0, 2] rfl)
  refine lv_iconst (v := 0) hx hb dX1_foundSet_0 (by decide) ?_
  refine lv_istore_n (lv' := [(1, .int 0), (0, .ref (G.1 + h))]) hx hb dX1_foundSet_1 rfl hl (by decide) rfl (fun ls hl => ?_)
  refine lv_iconst (v := 0) hx hb dX1_foundSet_2 (by decide) ?_
  refine lv_istore_n (lv' := [(2, .int 0), (1, .int 0), (0, .ref (G.1 + h))]) hx hb dX1_foundSet_3 rfl hl (by decide) rfl (fun ls hl => ?_)
  obtain ⟨n_, hw⟩ := hw
  exact L_4 n_ 0 0 M _ _ _ hw hP hS (lv_sub hl [2, 1, 0] rfl)
def wp_X1_dropSnow (h : Nat) (a1 : Int32) (a2 : Int32) (M : Mem) (Q : Mem → Prop) : Prop :=
  kdT h = 1 ∧ (wp_X9_isCell a1 M (fun r_2 M_1 => (r_2 = 0 → Q M_1) ∧ (¬ r_2 = 0 → vp_in a1 10 ∧ (vp_in a1 10 ∧ ∀ M_6, M_6 = mu M_1 (h + 11) a1.toNatClampNeg (imx (0 : Int32) (imn (999 : Int32) ((M_1 (h + 11) a1.toNatClampNeg) + a2))) → Q M_6))))
set_option maxHeartbeats 4000000 in
set_option maxRecDepth 100000 in
theorem so_X1_dropSnow (l : Launch) (G : Gm) (h : Nat) (a1 : Int32) (a2 : Int32) (M : Mem) (Q : Mem → Prop) (hw : wp_X1_dropSnow h a1 a2 M Q) : Ct l G yX1_dropSnow cX1_dropSnow 3 none ({ frames := 2, cells := 0, slots := 0, locals := 60 } : Room) [.ref (G.1 + h), .int a1, .int a2] M (Qv Q) := by
  unfold wp_X1_dropSnow at hw
  obtain ⟨kh, hw⟩ := hw
  refine ct_of (by decide) (Nat.le_of_ble_eq_true rfl) ?_
  intro p e s m below meth c E_ ls H hl hP hS
  obtain ⟨hx, hb, hml, hown, hts, ht, hr, hlocks, hSt, hTb⟩ := E_
  have hl : lv_has ls 3 [(0, .ref (G.1 + h)), (1, .int a1), (2, .int a2)] := hl
  refine lv_iload_n hx hb dX1_dropSnow_0 rfl (lv_at hl 1 rfl) ?_
  refine mw_SN (As := [.int a1]) (rest := []) (n := 1) (host := "RaddleMarks") ⟨hx, hb, hml, hown, hts⟩ (so_X9_isCell l G a1 M _ hw) (by decide +kernel) wt_yX9_isCell wn_RX9 wc_yX9_isCell (by decide) ⟨Nat.le_of_ble_eq_true rfl, Nat.le_of_ble_eq_true rfl⟩ ⟨rfl, rfl⟩ hSt hTb hP hS rfl hl.1 rfl (Nat.le_of_ble_eq_true rfl) dX1_dropSnow_1 ⟨Nat.le_refl 0, Nat.le_refl 0⟩ (fun rr_ M_1 H locs hq hP hS => ?_)
  obtain ⟨r_2, rfl, hw⟩ := hq
  refine lv_if_eq (tgt := 31) hx hb dX1_dropSnow_4 (by decide) (fun c_3 => ?_) (fun c_3 => ?_)
  · have hw := hw.1 c_3
    exact W.vret hx hb hr (mw_end hP hSt hTb hS ⟨rfl, hw⟩) hS.2.2 dX1_dropSnow_31
  · have hw := hw.2 c_3
    refine lv_aload_n hx hb dX1_dropSnow_7 rfl (lv_at hl 0 rfl) ?_
    refine mw_get (ci := 1) (v := .ref (G.1 + (h + 11))) (C := RX1) (T := TX1) (N := 9) hx hb ht inX1 hown hSt hP kh (by decide) (mk1 kh) rfl 2 (by decide) (ht _ wf_RX1_23) rfl rfl dX1_dropSnow_8 ?_
    refine lv_iload_n hx hb dX1_dropSnow_11 rfl (lv_at hl 1 rfl) ?_
    refine lv_iconst (v := 0) hx hb dX1_dropSnow_12 (by decide) ?_
    refine lv_sipush (v := 999) hx hb dX1_dropSnow_13 (by decide) ?_
    refine lv_aload_n hx hb dX1_dropSnow_16 rfl (lv_at hl 0 rfl) ?_
    refine mw_get (ci := 1) (v := .ref (G.1 + (h + 11))) (C := RX1) (T := TX1) (N := 9) hx hb ht inX1 hown hSt hP kh (by decide) (mk1 kh) rfl 2 (by decide) (ht _ wf_RX1_23) rfl rfl dX1_dropSnow_17 ?_
    refine lv_iload_n hx hb dX1_dropSnow_20 rfl (lv_at hl 1 rfl) ?_
    obtain ⟨c_4, hw⟩ := hw
    refine mw_iald hx hb hSt hP (ks1_2 kh) (by rw [(ln1_2 kh)]; exact c_4) dX1_dropSnow_21 ?_
    refine lv_iload_n hx hb dX1_dropSnow_22 rfl (lv_at hl 2 rfl) ?_
    refine lv_iadd hx hb dX1_dropSnow_23 ?_
    refine va_mmin (rest := [.int 0, .int a1, .ref (G.1 + (h + 11))]) hx hb (hml.trans hl.1.symm) hown (ht _ wm_RX1_59) (ht _ wt_yJ9_min_7cf53) (ht _ wn_RJ9) (ht _ wc_yJ9_min_7cf53) (Nat.le_of_ble_eq_true rfl) (Nat.le_of_ble_eq_true rfl) (Nat.zero_le _) (Nat.zero_le _) dX1_dropSnow_24 ?_
    refine va_mmax (rest := [.int a1, .ref (G.1 + (h + 11))]) hx hb (hml.trans hl.1.symm) hown (ht _ wm_RX1_81) (ht _ wt_yJ9_max_7cf53) (ht _ wn_RJ9) (ht _ wc_yJ9_max_7cf53) (Nat.le_of_ble_eq_true rfl) (Nat.le_of_ble_eq_true rfl) (Nat.zero_le _) (Nat.zero_le _) dX1_dropSnow_27 ?_
    obtain ⟨c_5, hw⟩ := hw
    refine mw_iast hx hb hSt hP hS (ks1_2 kh) (by rw [(ln1_2 kh)]; exact c_5) dX1_dropSnow_30 (fun M_6 H locs eM_6 hP hS => ?_)
    have hw := hw M_6 eM_6
    exact W.vret hx hb hr (mw_end hP hSt hTb hS ⟨rfl, hw⟩) hS.2.2 dX1_dropSnow_31
def wp_X1_snowAt (h : Nat) (a1 : Int32) (M : Mem) (Q : Int32 → Mem → Prop) : Prop :=
  kdT h = 1 ∧ (wp_X9_isCell a1 M (fun r_2 M_1 => (r_2 = 0 → Q 0 M_1) ∧ (¬ r_2 = 0 → vp_in a1 10 ∧ (Q (M_1 (h + 11) a1.toNatClampNeg) M_1))))
set_option maxHeartbeats 4000000 in
set_option maxRecDepth 100000 in
theorem so_X1_snowAt (l : Launch) (G : Gm) (h : Nat) (a1 : Int32) (M : Mem) (Q : Int32 → Mem → Prop) (hw : wp_X1_snowAt h a1 M Q) : Ct l G yX1_snowAt cX1_snowAt 2 (some .int) ({ frames := 2, cells := 0, slots := 0, locals := 41 } : Room) [.ref (G.1 + h), .int a1] M (Qi Q) := by
  unfold wp_X1_snowAt at hw
  obtain ⟨kh, hw⟩ := hw
  refine ct_of (by decide) (Nat.le_of_ble_eq_true rfl) ?_
  intro p e s m below meth c E_ ls H hl hP hS
  obtain ⟨hx, hb, hml, hown, hts, ht, hr, hlocks, hSt, hTb⟩ := E_
  have hl : lv_has ls 2 [(0, .ref (G.1 + h)), (1, .int a1)] := hl
  refine lv_iload_n hx hb dX1_snowAt_0 rfl (lv_at hl 1 rfl) ?_
  refine mw_SN (As := [.int a1]) (rest := []) (n := 1) (host := "RaddleMarks") ⟨hx, hb, hml, hown, hts⟩ (so_X9_isCell l G a1 M _ hw) (by decide +kernel) wt_yX9_isCell wn_RX9 wc_yX9_isCell (by decide) ⟨Nat.le_of_ble_eq_true rfl, Nat.le_of_ble_eq_true rfl⟩ ⟨rfl, rfl⟩ hSt hTb hP hS rfl hl.1 rfl (Nat.le_of_ble_eq_true rfl) dX1_snowAt_1 ⟨Nat.le_refl 0, Nat.le_refl 0⟩ (fun rr_ M_1 H locs hq hP hS => ?_)
  obtain ⟨r_2, rfl, hw⟩ := hq
  refine lv_if_eq (tgt := 16) hx hb dX1_snowAt_4 (by decide) (fun c_3 => ?_) (fun c_3 => ?_)
  · have hw := hw.1 c_3
    refine lv_iconst (v := 0) hx hb dX1_snowAt_16 (by decide) ?_
    exact W.iret hx hb hr (mw_end hP hSt hTb hS ⟨_, rfl, hw⟩) hS.2.2 dX1_snowAt_17
  · have hw := hw.2 c_3
    refine lv_aload_n hx hb dX1_snowAt_7 rfl (lv_at hl 0 rfl) ?_
    refine mw_get (ci := 1) (v := .ref (G.1 + (h + 11))) (C := RX1) (T := TX1) (N := 9) hx hb ht inX1 hown hSt hP kh (by decide) (mk1 kh) rfl 2 (by decide) (ht _ wf_RX1_23) rfl rfl dX1_snowAt_8 ?_
    refine lv_iload_n hx hb dX1_snowAt_11 rfl (lv_at hl 1 rfl) ?_
    obtain ⟨c_4, hw⟩ := hw
    refine mw_iald hx hb hSt hP (ks1_2 kh) (by rw [(ln1_2 kh)]; exact c_4) dX1_snowAt_12 ?_
    refine lv_goto (tgt := 17) hx hb dX1_snowAt_13 (by decide) ?_
    exact W.iret hx hb hr (mw_end hP hSt hTb hS ⟨_, rfl, hw⟩) hS.2.2 dX1_snowAt_17
def wp_X1_freeze (h : Nat) (a1 : Nat) (M : Mem) (Q : Mem → Prop) : Prop :=
  kdT h = 1 ∧ kdT a1 = 5 ∧ ((¬ (M a1 5) = 0 → Q M) ∧ ((M a1 5) = 0 → wp_X1_snowAt h (M a1 2) M (fun r_3 M_2 => (r_3 ≤ 0 → Q M_2) ∧ (¬ r_3 ≤ 0 → wp_X5_cold a1 (M_2 h 8) M_2 (fun r_6 M_5 => ∀ M_7, M_7 = mu M_5 a1 3 (imx (0 : Int32) ((M_2 a1 3) - r_6)) → Q M_7)))))
set_option maxHeartbeats 4000000 in
set_option maxRecDepth 100000 in
theorem so_X1_freeze (l : Launch) (G : Gm) (h : Nat) (a1 : Nat) (M : Mem) (Q : Mem → Prop) (hw : wp_X1_freeze h a1 M Q) : Ct l G yX1_freeze cX1_freeze 2 none ({ frames := 3, cells := 0, slots := 0, locals := 62 } : Room) [.ref (G.1 + h), .ref (G.1 + a1)] M (Qv Q) := by
  unfold wp_X1_freeze at hw
  obtain ⟨kh, ka1, hw⟩ := hw
  refine ct_of (by decide) (Nat.le_of_ble_eq_true rfl) ?_
  intro p e s m below meth c E_ ls H hl hP hS
  obtain ⟨hx, hb, hml, hown, hts, ht, hr, hlocks, hSt, hTb⟩ := E_
  have hl : lv_has ls 2 [(0, .ref (G.1 + h)), (1, .ref (G.1 + a1))] := hl
  refine lv_aload_n hx hb dX1_freeze_0 rfl (lv_at hl 1 rfl) ?_
  refine mw_get (ci := 5) (v := .int (M a1 5)) (C := RX5) (T := TX5) (N := 6) hx hb ht inX5 hown hSt hP ka1 (by decide) (mk5 ka1) rfl 5 (by decide) (ht _ wf_RX1_97) rfl rfl dX1_freeze_1 ?_
  refine lv_if_ne (tgt := 39) hx hb dX1_freeze_4 (by decide) (fun c_1 => ?_) (fun c_1 => ?_)
  · have hw := hw.1 c_1
    exact W.vret hx hb hr (mw_end hP hSt hTb hS ⟨rfl, hw⟩) hS.2.2 dX1_freeze_39
  · have hw := hw.2 c_1
    refine lv_aload_n hx hb dX1_freeze_7 rfl (lv_at hl 0 rfl) ?_
    refine lv_aload_n hx hb dX1_freeze_8 rfl (lv_at hl 1 rfl) ?_
    refine mw_get (ci := 5) (v := .int (M a1 2)) (C := RX5) (T := TX5) (N := 6) hx hb ht inX5 hown hSt hP ka1 (by decide) (mk5 ka1) rfl 2 (by decide) (ht _ wf_RX1_94) rfl rfl dX1_freeze_9 ?_
    refine mw_V (As := [.int (M a1 2)]) (rest := []) (T := TX1) (N := 9) (n := 1) ⟨hx, hb, hml, hown, hts⟩ (so_X1_snowAt l G h (M a1 2) M _ hw) wm_RX1_147 wi_yX1_snowAt wv_yX1_snowAt wn_RX1 wc_yX1_snowAt (by decide) ⟨Nat.le_of_ble_eq_true rfl, Nat.le_of_ble_eq_true rfl⟩ ⟨rfl, rfl⟩ kh (by decide) (mk1 kh) rfl hSt hTb hP hS rfl hl.1 rfl (Nat.le_of_ble_eq_true rfl) dX1_freeze_12 ⟨Nat.le_refl 0, Nat.le_refl 0⟩ (fun rr_ M_2 H locs hq hP hS => ?_)
    obtain ⟨r_3, rfl, hw⟩ := hq
    refine lv_if_le (tgt := 39) hx hb dX1_freeze_15 (by decide) (fun c_4 => ?_) (fun c_4 => ?_)
    · have hw := hw.1 c_4
      exact W.vret hx hb hr (mw_end hP hSt hTb hS ⟨rfl, hw⟩) hS.2.2 dX1_freeze_39
    · have hw := hw.2 c_4
      refine lv_aload_n hx hb dX1_freeze_18 rfl (lv_at hl 1 rfl) ?_
      refine lv_iconst (v := 0) hx hb dX1_freeze_19 (by decide) ?_
      refine lv_aload_n hx hb dX1_freeze_20 rfl (lv_at hl 1 rfl) ?_
      refine mw_get (ci := 5) (v := .int (M_2 a1 3)) (C := RX5) (T := TX5) (N := 6) hx hb ht inX5 hown hSt hP ka1 (by decide) (mk5 ka1) rfl 3 (by decide) (ht _ wf_RX1_114) rfl rfl dX1_freeze_21 ?_
      refine lv_aload_n hx hb dX1_freeze_24 rfl (lv_at hl 1 rfl) ?_
      refine lv_aload_n hx hb dX1_freeze_25 rfl (lv_at hl 0 rfl) ?_
      refine mw_get (ci := 1) (v := .int (M_2 h 8)) (C := RX1) (T := TX1) (N := 9) hx hb ht inX1 hown hSt hP kh (by decide) (mk1 kh) rfl 8 (by decide) (ht _ wf_RX1_74) rfl rfl dX1_freeze_26 ?_
      refine mw_V (As := [.int (M_2 h 8)]) (rest := [.int (M_2 a1 3), .int 0, .ref (G.1 + a1)]) (T := TX5) (N := 6) (n := 1) ⟨hx, hb, hml, hown, hts⟩ (so_X5_cold l G a1 (M_2 h 8) M_2 _ hw) wm_RX1_156 wi_yX5_cold wv_yX5_cold wn_RX5 wc_yX5_cold (by decide) ⟨Nat.le_of_ble_eq_true rfl, Nat.le_of_ble_eq_true rfl⟩ ⟨rfl, rfl⟩ ka1 (by decide) (mk5 ka1) rfl hSt hTb hP hS rfl hl.1 rfl (Nat.le_of_ble_eq_true rfl) dX1_freeze_29 ⟨Nat.le_refl 0, Nat.le_refl 0⟩ (fun rr_ M_5 H locs hq hP hS => ?_)
      obtain ⟨r_6, rfl, hw⟩ := hq
      refine lv_isub hx hb dX1_freeze_32 ?_
      refine va_mmax (rest := [.ref (G.1 + a1)]) hx hb (hml.trans hl.1.symm) hown (ht _ wm_RX1_81) (ht _ wt_yJ9_max_7cf53) (ht _ wn_RJ9) (ht _ wc_yJ9_max_7cf53) (Nat.le_of_ble_eq_true rfl) (Nat.le_of_ble_eq_true rfl) (Nat.zero_le _) (Nat.zero_le _) dX1_freeze_33 ?_
      refine mw_put (ci := 5) (v := imx (0 : Int32) ((M_2 a1 3) - r_6)) (ty := .int) (C := RX5) (T := TX5) (N := 6) hx hb ht inX5 tyX5 tyX5_ok nmX5 hown hSt hP hS ka1 (by decide) (mk5 ka1) rfl 3 (by decide) (ht _ wf_RX1_114) rfl rfl (by decide +kernel) (vp_nar_int _) rfl (Nat.le_of_ble_eq_true rfl) (by rw [mk5 ka1]; simp [mu]) dX1_freeze_36 (fun M_7 H locs eM_7 hP hS => ?_)
      have hw := hw M_7 eM_7
      exact W.vret hx hb hr (mw_end hP hSt hTb hS ⟨rfl, hw⟩) hS.2.2 dX1_freeze_39
def b_X1_seek_52 (h : Nat) (Q : Mem → Prop) (s0 : Nat) (s1 : Int32) (s2 : Int32) (M : Mem) : Prop :=
  ∀ M_1, M_1 = mu M s0 0 (s1 + s2) → Q M_1
def wp_X1_seek (h : Nat) (a1 : Nat) (a2 : Int32) (M : Mem) (Q : Mem → Prop) : Prop :=
  kdT h = 1 ∧ kdT a1 = 4 ∧ ((a2 < 0 → Q M) ∧ (¬ a2 < 0 → (a2 < (M h 7) → vp_in a2 7 ∧ (∀ q_5, q_5 = h + 13 + 9 + a2.toNatClampNeg → ((M q_5 2) = (M a1 0) → wp_X1_dropSnow h (M q_5 2) (-(M a1 1)) M (fun M_7 => wp_X1_snowAt h (M_7 q_5 2) M_7 (fun r_9 M_8 => wp_X5_heard q_5 (M_8 h 8) M_8 (fun r_11 M_10 => (r_11 < r_9 → Q M_10) ∧ (¬ r_11 < r_9 → ∀ M_13, M_13 = mu M_10 q_5 5 1 → wp_X3_append (h + 14) a2 M_13 (fun r_15 M_14 => Q M_14)))))) ∧ (¬ (M q_5 2) = (M a1 0) → ((M q_5 2) ≤ (M a1 0) → b_X1_seek_52 h Q a1 (M a1 0) (-1) M) ∧ (¬ (M q_5 2) ≤ (M a1 0) → b_X1_seek_52 h Q a1 (M a1 0) 1 M)))) ∧ (¬ a2 < (M h 7) → Q M)))
set_option maxHeartbeats 4000000 in
set_option maxRecDepth 100000 in
theorem so_X1_seek (l : Launch) (G : Gm) (h : Nat) (a1 : Nat) (a2 : Int32) (M : Mem) (Q : Mem → Prop) (hw : wp_X1_seek h a1 a2 M Q) : Ct l G yX1_seek cX1_seek 4 none ({ frames := 3, cells := 0, slots := 0, locals := 101 } : Room) [.ref (G.1 + h), .ref (G.1 + a1), .int a2] M (Qv Q) := by
  unfold wp_X1_seek at hw
  obtain ⟨kh, ka1, hw⟩ := hw
  refine ct_of (by decide) (Nat.le_of_ble_eq_true rfl) ?_
  intro p e s m below meth c E_ ls H hl hP hS
  obtain ⟨hx, hb, hml, hown, hts, ht, hr, hlocks, hSt, hTb⟩ := E_
  have hl : lv_has ls 4 [(0, .ref (G.1 + h)), (1, .ref (G.1 + a1)), (2, .int a2)] := hl
  have J_52 : ∀ (s0 : Nat) (s1 : Int32) (s2 : Int32) (M : Mem) (H : Heap) (locs : List Loc) (ls : Array Slot), kdT s0 = 4 → b_X1_seek_52 h Q s0 s1 s2 M → va_P G.2.1 clsA (wl G M) H → va_S (inW G) s.heap H locs → lv_has ls 4 [(0, .ref (G.1 + h))] → W p l e ({ frames := 3, cells := 0, slots := 0, locals := 101 } : Room) s m ([.ref (G.1 + h), .ref (G.1 + a1), .int a2] : List Value).toArray below meth c H locs 0 0 (MQ below (Pq G (Qv Q)) ([.ref (G.1 + h), .ref (G.1 + a1), .int a2] : List Value).toArray s 0 0 (inW G)) (F0 m 52 ls [.int s2, .int s1, .ref (G.1 + s0)]) := by
    intro s0 s1 s2 M H locs ls ks0 hw hP hS hl
    unfold b_X1_seek_52 at hw
    refine lv_iadd hx hb dX1_seek_52 ?_
    refine mw_put (ci := 4) (v := s1 + s2) (ty := .int) (C := RX4) (T := TX4) (N := 2) hx hb ht inX4 tyX4 tyX4_ok nmX4 hown hSt hP hS ks0 (by decide) (mk4 ks0) rfl 0 (by decide) (ht _ wf_RX1_91) rfl rfl (by decide +kernel) (vp_nar_int _) rfl (Nat.le_of_ble_eq_true rfl) (by rw [mk4 ks0]; simp [mu]) dX1_seek_53 (fun M_1 H locs eM_1 hP hS => ?_)
    have hw := hw M_1 eM_1
    exact W.vret hx hb hr (mw_end hP hSt hTb hS ⟨rfl, hw⟩) hS.2.2 dX1_seek_56
  refine lv_iload_n hx hb dX1_seek_0 rfl (lv_at hl 2 rfl) ?_
  refine lv_if_lt (tgt := 12) hx hb dX1_seek_1 (by decide) (fun c_2 => ?_) (fun c_2 => ?_)
  · have hw := hw.1 c_2
    exact W.vret hx hb hr (mw_end hP hSt hTb hS ⟨rfl, hw⟩) hS.2.2 dX1_seek_12
  · have hw := hw.2 c_2
    refine lv_iload_n hx hb dX1_seek_4 rfl (lv_at hl 2 rfl) ?_
    refine lv_aload_n hx hb dX1_seek_5 rfl (lv_at hl 0 rfl) ?_
    refine mw_get (ci := 1) (v := .int (M h 7)) (C := RX1) (T := TX1) (N := 9) hx hb ht inX1 hown hSt hP kh (by decide) (mk1 kh) rfl 7 (by decide) (ht _ wf_RX1_68) rfl rfl dX1_seek_6 ?_
    refine lv_icmp_lt (tgt := 13) hx hb dX1_seek_9 (by decide) (fun c_3 => ?_) (fun c_3 => ?_)
    · have hw := hw.1 c_3
      refine lv_aload_n hx hb dX1_seek_13 rfl (lv_at hl 0 rfl) ?_
      refine mw_get (ci := 1) (v := .ref (G.1 + (h + 13))) (C := RX1) (T := TX1) (N := 9) hx hb ht inX1 hown hSt hP kh (by decide) (mk1 kh) rfl 4 (by decide) (ht _ wf_RX1_35) rfl rfl dX1_seek_14 ?_
      refine lv_iload_n hx hb dX1_seek_17 rfl (lv_at hl 2 rfl) ?_
      obtain ⟨c_4, hw⟩ := hw
      refine mw_aald13 hx hb hSt hP (ks1_4 kh) (by rw [(ln1_4 kh)]; exact c_4) dX1_seek_18 ?_
      obtain ⟨q_5, eq_5⟩ : ∃ z, z = h + 13 + 9 + a2.toNatClampNeg := ⟨_, rfl⟩
      have hw := hw q_5 eq_5
      have kq_5 : kdT q_5 = 5 := by rw [eq_5]; exact (ke13 (ks1_4 kh) (vp_lt (by rw [(ln1_4 kh)]; exact c_4)))
      rw [← eq_5]
      refine lv_astore_n (lv' := [(3, .ref (G.1 + q_5)), (0, .ref (G.1 + h)), (1, .ref (G.1 + a1)), (2, .int a2)]) hx hb dX1_seek_19 rfl hl (by decide) rfl (fun ls hl => ?_)
      refine lv_aload_n hx hb dX1_seek_20 rfl (lv_at hl 0 rfl) ?_
      refine mw_get (ci := 5) (v := .int (M q_5 2)) (C := RX5) (T := TX5) (N := 6) hx hb ht inX5 hown hSt hP kq_5 (by decide) (mk5 kq_5) rfl 2 (by decide) (ht _ wf_RX1_94) rfl rfl dX1_seek_21 ?_
      refine lv_aload_n hx hb dX1_seek_24 rfl (lv_at hl 2 rfl) ?_
      refine mw_get (ci := 4) (v := .int (M a1 0)) (C := RX4) (T := TX4) (N := 2) hx hb ht inX4 hown hSt hP ka1 (by decide) (mk4 ka1) rfl 0 (by decide) (ht _ wf_RX1_91) rfl rfl dX1_seek_25 ?_
      refine lv_icmp_eq (tgt := 57) hx hb dX1_seek_28 (by decide) (fun c_6 => ?_) (fun c_6 => ?_)
      · have hw := hw.1 c_6
        refine lv_aload_n hx hb dX1_seek_57 rfl (lv_at hl 1 rfl) ?_
        refine lv_aload_n hx hb dX1_seek_58 rfl (lv_at hl 0 rfl) ?_
        refine mw_get (ci := 5) (v := .int (M q_5 2)) (C := RX5) (T := TX5) (N := 6) hx hb ht inX5 hown hSt hP kq_5 (by decide) (mk5 kq_5) rfl 2 (by decide) (ht _ wf_RX1_94) rfl rfl dX1_seek_59 ?_
        refine lv_aload_n hx hb dX1_seek_62 rfl (lv_at hl 2 rfl) ?_
        refine mw_get (ci := 4) (v := .int (M a1 1)) (C := RX4) (T := TX4) (N := 2) hx hb ht inX4 hown hSt hP ka1 (by decide) (mk4 ka1) rfl 1 (by decide) (ht _ wf_RX1_144) rfl rfl dX1_seek_63 ?_
        refine lv_ineg hx hb dX1_seek_66 ?_
        refine mw_V (As := [.int (M q_5 2), .int (-(M a1 1))]) (rest := []) (T := TX1) (N := 9) (n := 2) ⟨hx, hb, hml, hown, hts⟩ (so_X1_dropSnow l G h (M q_5 2) (-(M a1 1)) M _ hw) wm_RX1_130 wi_yX1_dropSnow wv_yX1_dropSnow wn_RX1 wc_yX1_dropSnow (by decide) ⟨Nat.le_of_ble_eq_true rfl, Nat.le_of_ble_eq_true rfl⟩ ⟨rfl, rfl⟩ kh (by decide) (mk1 kh) rfl hSt hTb hP hS rfl hl.1 rfl (Nat.le_of_ble_eq_true rfl) dX1_seek_67 ⟨Nat.le_refl 0, Nat.le_refl 0⟩ (fun rr_ M_7 H locs hq hP hS => ?_)
        obtain ⟨rfl, hw⟩ := hq
        refine lv_aload_n hx hb dX1_seek_70 rfl (lv_at hl 1 rfl) ?_
        refine lv_aload_n hx hb dX1_seek_71 rfl (lv_at hl 0 rfl) ?_
        refine mw_get (ci := 5) (v := .int (M_7 q_5 2)) (C := RX5) (T := TX5) (N := 6) hx hb ht inX5 hown hSt hP kq_5 (by decide) (mk5 kq_5) rfl 2 (by decide) (ht _ wf_RX1_94) rfl rfl dX1_seek_72 ?_
        refine mw_V (As := [.int (M_7 q_5 2)]) (rest := []) (T := TX1) (N := 9) (n := 1) ⟨hx, hb, hml, hown, hts⟩ (so_X1_snowAt l G h (M_7 q_5 2) M_7 _ hw) wm_RX1_147 wi_yX1_snowAt wv_yX1_snowAt wn_RX1 wc_yX1_snowAt (by decide) ⟨Nat.le_of_ble_eq_true rfl, Nat.le_of_ble_eq_true rfl⟩ ⟨rfl, rfl⟩ kh (by decide) (mk1 kh) rfl hSt hTb hP hS rfl hl.1 rfl (Nat.le_of_ble_eq_true rfl) dX1_seek_75 ⟨Nat.le_refl 0, Nat.le_refl 0⟩ (fun rr_ M_8 H locs hq hP hS => ?_)
        obtain ⟨r_9, rfl, hw⟩ := hq
        refine lv_aload_n hx hb dX1_seek_78 rfl (lv_at hl 0 rfl) ?_
        refine lv_aload_n hx hb dX1_seek_79 rfl (lv_at hl 1 rfl) ?_
        refine mw_get (ci := 1) (v := .int (M_8 h 8)) (C := RX1) (T := TX1) (N := 9) hx hb ht inX1 hown hSt hP kh (by decide) (mk1 kh) rfl 8 (by decide) (ht _ wf_RX1_74) rfl rfl dX1_seek_80 ?_
        refine mw_V (As := [.int (M_8 h 8)]) (rest := [.int r_9]) (T := TX5) (N := 6) (n := 1) ⟨hx, hb, hml, hown, hts⟩ (so_X5_heard l G q_5 (M_8 h 8) M_8 _ hw) wm_RX1_150 wi_yX5_heard wv_yX5_heard wn_RX5 wc_yX5_heard (by decide) ⟨Nat.le_of_ble_eq_true rfl, Nat.le_of_ble_eq_true rfl⟩ ⟨rfl, rfl⟩ kq_5 (by decide) (mk5 kq_5) rfl hSt hTb hP hS rfl hl.1 rfl (Nat.le_of_ble_eq_true rfl) dX1_seek_83 ⟨Nat.le_refl 0, Nat.le_refl 0⟩ (fun rr_ M_10 H locs hq hP hS => ?_)
        obtain ⟨r_11, rfl, hw⟩ := hq
        refine lv_icmp_gt (tgt := 103) hx hb dX1_seek_86 (by decide) (fun c_12 => ?_) (fun c_12 => ?_)
        · have hw := hw.1 c_12
          exact W.vret hx hb hr (mw_end hP hSt hTb hS ⟨rfl, hw⟩) hS.2.2 dX1_seek_103
        · have hw := hw.2 c_12
          refine lv_aload_n hx hb dX1_seek_89 rfl (lv_at hl 0 rfl) ?_
          refine lv_iconst (v := 1) hx hb dX1_seek_90 (by decide) ?_
          refine mw_put (ci := 5) (v := 1) (ty := .boolean) (C := RX5) (T := TX5) (N := 6) hx hb ht inX5 tyX5 tyX5_ok nmX5 hown hSt hP hS kq_5 (by decide) (mk5 kq_5) rfl 5 (by decide) (ht _ wf_RX1_97) rfl rfl (by decide +kernel) (by decide) (by decide) (Nat.le_of_ble_eq_true rfl) (by rw [mk5 kq_5]; simp [mu]) dX1_seek_91 (fun M_13 H locs eM_13 hP hS => ?_)
          have hw := hw M_13 eM_13
          refine lv_aload_n hx hb dX1_seek_94 rfl (lv_at hl 1 rfl) ?_
          refine mw_get (ci := 1) (v := .ref (G.1 + (h + 14))) (C := RX1) (T := TX1) (N := 9) hx hb ht inX1 hown hSt hP kh (by decide) (mk1 kh) rfl 5 (by decide) (ht _ wf_RX1_42) rfl rfl dX1_seek_95 ?_
          refine lv_iload_n hx hb dX1_seek_98 rfl (lv_at hl 3 rfl) ?_
          refine mw_V (As := [.int a2]) (rest := []) (T := TX3) (N := 2) (n := 1) ⟨hx, hb, hml, hown, hts⟩ (so_X3_append l G (h + 14) a2 M_13 _ hw) wm_RX1_153 wi_yX3_append wv_yX3_append wn_RX3 wc_yX3_append (by decide) ⟨Nat.le_of_ble_eq_true rfl, Nat.le_of_ble_eq_true rfl⟩ ⟨rfl, rfl⟩ (ks1_5 kh) (by decide) (mk3 (ks1_5 kh)) rfl hSt hTb hP hS rfl hl.1 rfl (Nat.le_of_ble_eq_true rfl) dX1_seek_99 ⟨Nat.le_refl 0, Nat.le_refl 0⟩ (fun rr_ M_14 H locs hq hP hS => ?_)
          obtain ⟨r_15, rfl, hw⟩ := hq
          refine lv_pop hx hb dX1_seek_102 rfl ?_
          exact W.vret hx hb hr (mw_end hP hSt hTb hS ⟨rfl, hw⟩) hS.2.2 dX1_seek_103
      · have hw := hw.2 c_6
        refine lv_aload_n hx hb dX1_seek_31 rfl (lv_at hl 2 rfl) ?_
        refine lv_dup hx hb dX1_seek_32 rfl ?_
        refine mw_get (ci := 4) (v := .int (M a1 0)) (C := RX4) (T := TX4) (N := 2) hx hb ht inX4 hown hSt hP ka1 (by decide) (mk4 ka1) rfl 0 (by decide) (ht _ wf_RX1_91) rfl rfl dX1_seek_33 ?_
        refine lv_aload_n hx hb dX1_seek_36 rfl (lv_at hl 0 rfl) ?_
        refine mw_get (ci := 5) (v := .int (M q_5 2)) (C := RX5) (T := TX5) (N := 6) hx hb ht inX5 hown hSt hP kq_5 (by decide) (mk5 kq_5) rfl 2 (by decide) (ht _ wf_RX1_94) rfl rfl dX1_seek_37 ?_
        refine lv_aload_n hx hb dX1_seek_40 rfl (lv_at hl 2 rfl) ?_
        refine mw_get (ci := 4) (v := .int (M a1 0)) (C := RX4) (T := TX4) (N := 2) hx hb ht inX4 hown hSt hP ka1 (by decide) (mk4 ka1) rfl 0 (by decide) (ht _ wf_RX1_91) rfl rfl dX1_seek_41 ?_
        refine lv_icmp_le (tgt := 51) hx hb dX1_seek_44 (by decide) (fun c_16 => ?_) (fun c_16 => ?_)
        · have hw := hw.1 c_16
          refine lv_iconst (v := (-1)) hx hb dX1_seek_51 (by decide) ?_
          exact J_52 a1 (M a1 0) (-1) M _ _ _ ka1 hw hP hS (lv_sub hl [1] rfl)
        · have hw := hw.2 c_16
          refine lv_iconst (v := 1) hx hb dX1_seek_47 (by decide) ?_
          refine lv_goto (tgt := 52) hx hb dX1_seek_48 (by decide) ?_
          exact J_52 a1 (M a1 0) 1 M _ _ _ ka1 hw hP hS (lv_sub hl [1] rfl)
    · have hw := hw.2 c_3
      exact W.vret hx hb hr (mw_end hP hSt hTb hS ⟨rfl, hw⟩) hS.2.2 dX1_seek_12
def B_X1_passOneHour_73 (h : Nat) (Q : Mem → Prop) (K73 : Int32 → Mem → Prop) (v1 : Int32) (M : Mem) : Prop :=
  ((M h 7) ≤ v1 → ∀ M_2, M_2 = mu M h 8 ((M h 8) + 1) → Q M_2) ∧ (¬ (M h 7) ≤ v1 → vp_in v1 7 ∧ (wp_X1_freeze h (h + 13 + 9 + v1.toNatClampNeg) M (fun M_4 => ∀ x_5 : Int32, x_5 = v1 + 1 → K73 x_5 M_4)))
def l_X1_passOneHour_73 (h : Nat) (Q : Mem → Prop) : Nat → Int32 → Mem → Prop
  | 0 => fun _ _ => False
  | n + 1 => B_X1_passOneHour_73 h Q (l_X1_passOneHour_73 h Q n)
def B_X1_passOneHour_42 (h : Nat) (Q : Mem → Prop) (K42 : Int32 → Mem → Prop) (v1 : Int32) (M : Mem) : Prop :=
  ((M h 6) ≤ v1 → ∃ n, l_X1_passOneHour_73 h Q n 0 M) ∧ (¬ (M h 6) ≤ v1 → vp_in v1 6 ∧ (wp_X1_outFor h v1 M (fun r_9 M_8 => wp_X1_seek h (h + 12 + 4 + v1.toNatClampNeg) r_9 M_8 (fun M_10 => ∀ x_11 : Int32, x_11 = v1 + 1 → K42 x_11 M_10))))
def l_X1_passOneHour_42 (h : Nat) (Q : Mem → Prop) : Nat → Int32 → Mem → Prop
  | 0 => fun _ _ => False
  | n + 1 => B_X1_passOneHour_42 h Q (l_X1_passOneHour_42 h Q n)
def B_X1_passOneHour_2 (h : Nat) (Q : Mem → Prop) (K2 : Int32 → Mem → Prop) (v1 : Int32) (M : Mem) : Prop :=
  (10 ≤ v1 → ∃ n, l_X1_passOneHour_42 h Q n 0 M) ∧ (¬ 10 ≤ v1 → vp_in v1 10 ∧ (wp_X0_gives (h + 1) v1 (M (h + 11) v1.toNatClampNeg) (irm (M h 8) 24) M (fun r_15 M_14 => wp_X1_dropSnow h v1 r_15 M_14 (fun M_16 => ∀ x_17 : Int32, x_17 = v1 + 1 → K2 x_17 M_16))))
def l_X1_passOneHour_2 (h : Nat) (Q : Mem → Prop) : Nat → Int32 → Mem → Prop
  | 0 => fun _ _ => False
  | n + 1 => B_X1_passOneHour_2 h Q (l_X1_passOneHour_2 h Q n)
def wp_X1_passOneHour (h : Nat) (M : Mem) (Q : Mem → Prop) : Prop :=
  kdT h = 1 ∧ (∃ n, l_X1_passOneHour_2 h Q n 0 M)
set_option maxHeartbeats 4000000 in
set_option maxRecDepth 100000 in
theorem so_X1_passOneHour (l : Launch) (G : Gm) (h : Nat) (M : Mem) (Q : Mem → Prop) (hw : wp_X1_passOneHour h M Q) : Ct l G yX1_passOneHour cX1_passOneHour 2 none ({ frames := 4, cells := 0, slots := 0, locals := 124 } : Room) [.ref (G.1 + h)] M (Qv Q) := by
  unfold wp_X1_passOneHour at hw
  obtain ⟨kh, hw⟩ := hw
  refine ct_of (by decide) (Nat.le_of_ble_eq_true rfl) ?_
  intro p e s m below meth c E_ ls H hl hP hS
  obtain ⟨hx, hb, hml, hown, hts, ht, hr, hlocks, hSt, hTb⟩ := E_
  have hl : lv_has ls 2 [(0, .ref (G.1 + h))] := hl
  have L_73 : ∀ (n73 : Nat) (v1 : Int32) (M : Mem) (H : Heap) (locs : List Loc) (ls : Array Slot), l_X1_passOneHour_73 h Q n73 v1 M → va_P G.2.1 clsA (wl G M) H → va_S (inW G) s.heap H locs → lv_has ls 2 [(0, .ref (G.1 + h)), (1, .int v1)] → W p l e ({ frames := 4, cells := 0, slots := 0, locals := 124 } : Room) s m ([.ref (G.1 + h)] : List Value).toArray below meth c H locs 0 0 (MQ below (Pq G (Qv Q)) ([.ref (G.1 + h)] : List Value).toArray s 0 0 (inW G)) (F0 m 73 ls []) := by
    intro   n73
    induction n73 with
    | zero => intro v1 M H locs ls  hw hP hS hl; exact False.elim hw
    | succ n73 ih73 =>
      intro v1 M H locs ls  hw hP hS hl
      have hw : B_X1_passOneHour_73 h Q (l_X1_passOneHour_73 h Q n73) v1 M := hw
      unfold B_X1_passOneHour_73 at hw
      refine lv_iload_n hx hb dX1_passOneHour_73 rfl (lv_at hl 1 rfl) ?_
      refine lv_aload_n hx hb dX1_passOneHour_74 rfl (lv_at hl 0 rfl) ?_
      refine mw_get (ci := 1) (v := .int (M h 7)) (C := RX1) (T := TX1) (N := 9) hx hb ht inX1 hown hSt hP kh (by decide) (mk1 kh) rfl 7 (by decide) (ht _ wf_RX1_68) rfl rfl dX1_passOneHour_75 ?_
      refine lv_icmp_ge (tgt := 97) hx hb dX1_passOneHour_78 (by decide) (fun c_1 => ?_) (fun c_1 => ?_)
      · have hw := hw.1 c_1
        refine lv_aload_n hx hb dX1_passOneHour_97 rfl (lv_at hl 0 rfl) ?_
        refine lv_dup hx hb dX1_passOneHour_98 rfl ?_
        refine mw_get (ci := 1) (v := .int (M h 8)) (C := RX1) (T := TX1) (N := 9) hx hb ht inX1 hown hSt hP kh (by decide) (mk1 kh) rfl 8 (by decide) (ht _ wf_RX1_74) rfl rfl dX1_passOneHour_99 ?_
        refine lv_iconst (v := 1) hx hb dX1_passOneHour_102 (by decide) ?_
        refine lv_iadd hx hb dX1_passOneHour_103 ?_
        refine mw_put (ci := 1) (v := (M h 8) + 1) (ty := .int) (C := RX1) (T := TX1) (N := 9) hx hb ht inX1 tyX1 tyX1_ok nmX1 hown hSt hP hS kh (by decide) (mk1 kh) rfl 8 (by decide) (ht _ wf_RX1_74) rfl rfl (by decide +kernel) (vp_nar_int _) rfl (Nat.le_of_ble_eq_true rfl) (by rw [mk1 kh]; simp [mu]) dX1_passOneHour_104 (fun M_2 H locs eM_2 hP hS => ?_)
        have hw := hw M_2 eM_2
        exact W.vret hx hb hr (mw_end hP hSt hTb hS ⟨rfl, hw⟩) hS.2.2 dX1_passOneHour_107
      · have hw := hw.2 c_1
        refine lv_aload_n hx hb dX1_passOneHour_81 rfl (lv_at hl 0 rfl) ?_
        refine lv_aload_n hx hb dX1_passOneHour_82 rfl (lv_at hl 0 rfl) ?_
        refine mw_get (ci := 1) (v := .ref (G.1 + (h + 13))) (C := RX1) (T := TX1) (N := 9) hx hb ht inX1 hown hSt hP kh (by decide) (mk1 kh) rfl 4 (by decide) (ht _ wf_RX1_35) rfl rfl dX1_passOneHour_83 ?_
        refine lv_iload_n hx hb dX1_passOneHour_86 rfl (lv_at hl 1 rfl) ?_
        obtain ⟨c_3, hw⟩ := hw
        refine mw_aald13 hx hb hSt hP (ks1_4 kh) (by rw [(ln1_4 kh)]; exact c_3) dX1_passOneHour_87 ?_
        refine mw_V (As := [.ref (G.1 + (h + 13 + 9 + v1.toNatClampNeg))]) (rest := []) (T := TX1) (N := 9) (n := 1) ⟨hx, hb, hml, hown, hts⟩ (so_X1_freeze l G h (h + 13 + 9 + v1.toNatClampNeg) M _ hw) wm_RX1_141 wi_yX1_freeze wv_yX1_freeze wn_RX1 wc_yX1_freeze (by decide) ⟨Nat.le_of_ble_eq_true rfl, Nat.le_of_ble_eq_true rfl⟩ ⟨rfl, rfl⟩ kh (by decide) (mk1 kh) rfl hSt hTb hP hS rfl hl.1 rfl (Nat.le_of_ble_eq_true rfl) dX1_passOneHour_88 ⟨Nat.le_refl 0, Nat.le_refl 0⟩ (fun rr_ M_4 H locs hq hP hS => ?_)
        obtain ⟨rfl, hw⟩ := hq
        obtain ⟨x_5, ex_5⟩ : ∃ z : Int32, z = v1 + 1 := ⟨_, rfl⟩
        have hw := hw x_5 ex_5
        refine lv_iinc (v := x_5) (lv' := [(1, .int x_5), (0, .ref (G.1 + h))]) hx hb dX1_passOneHour_91 hl (k := 1) rfl (by rw [ex_5]; rfl) (by decide) rfl (fun ls hl => ?_)
        refine lv_goto (tgt := 73) hx hb dX1_passOneHour_94 (by decide) ?_
        exact ih73 x_5 M_4 _ _ _ hw hP hS (lv_sub hl [1, 0] rfl)
  have L_42 : ∀ (n42 : Nat) (v1 : Int32) (M : Mem) (H : Heap) (locs : List Loc) (ls : Array Slot), l_X1_passOneHour_42 h Q n42 v1 M → va_P G.2.1 clsA (wl G M) H → va_S (inW G) s.heap H locs → lv_has ls 2 [(0, .ref (G.1 + h)), (1, .int v1)] → W p l e ({ frames := 4, cells := 0, slots := 0, locals := 124 } : Room) s m ([.ref (G.1 + h)] : List Value).toArray below meth c H locs 0 0 (MQ below (Pq G (Qv Q)) ([.ref (G.1 + h)] : List Value).toArray s 0 0 (inW G)) (F0 m 42 ls []) := by
    intro   n42
    induction n42 with
    | zero => intro v1 M H locs ls  hw hP hS hl; exact False.elim hw
    | succ n42 ih42 =>
      intro v1 M H locs ls  hw hP hS hl
      have hw : B_X1_passOneHour_42 h Q (l_X1_passOneHour_42 h Q n42) v1 M := hw
      unfold B_X1_passOneHour_42 at hw
      refine lv_iload_n hx hb dX1_passOneHour_42 rfl (lv_at hl 1 rfl) ?_
      refine lv_aload_n hx hb dX1_passOneHour_43 rfl (lv_at hl 0 rfl) ?_
      refine mw_get (ci := 1) (v := .int (M h 6)) (C := RX1) (T := TX1) (N := 9) hx hb ht inX1 hown hSt hP kh (by decide) (mk1 kh) rfl 6 (by decide) (ht _ wf_RX1_55) rfl rfl dX1_passOneHour_44 ?_
      refine lv_icmp_ge (tgt := 71) hx hb dX1_passOneHour_47 (by decide) (fun c_6 => ?_) (fun c_6 => ?_)
      · have hw := hw.1 c_6
        refine lv_iconst (v := 0) hx hb dX1_passOneHour_71 (by decide) ?_
        refine lv_istore_n (lv' := [(1, .int 0), (0, .ref (G.1 + h))]) hx hb dX1_passOneHour_72 rfl hl (by decide) rfl (fun ls hl => ?_)
        obtain ⟨n_, hw⟩ := hw
        exact L_73 n_ 0 M _ _ _ hw hP hS (lv_sub hl [1, 0] rfl)
      · have hw := hw.2 c_6
        refine lv_aload_n hx hb dX1_passOneHour_50 rfl (lv_at hl 0 rfl) ?_
        refine lv_aload_n hx hb dX1_passOneHour_51 rfl (lv_at hl 0 rfl) ?_
        refine mw_get (ci := 1) (v := .ref (G.1 + (h + 12))) (C := RX1) (T := TX1) (N := 9) hx hb ht inX1 hown hSt hP kh (by decide) (mk1 kh) rfl 3 (by decide) (ht _ wf_RX1_29) rfl rfl dX1_passOneHour_52 ?_
        refine lv_iload_n hx hb dX1_passOneHour_55 rfl (lv_at hl 1 rfl) ?_
        obtain ⟨c_7, hw⟩ := hw
        refine mw_aald12 hx hb hSt hP (ks1_3 kh) (by rw [(ln1_3 kh)]; exact c_7) dX1_passOneHour_56 ?_
        refine lv_aload_n hx hb dX1_passOneHour_57 rfl (lv_at hl 0 rfl) ?_
        refine lv_iload_n hx hb dX1_passOneHour_58 rfl (lv_at hl 1 rfl) ?_
        refine mw_V (As := [.int v1]) (rest := [.ref (G.1 + (h + 12 + 4 + v1.toNatClampNeg)), .ref (G.1 + h)]) (T := TX1) (N := 9) (n := 1) ⟨hx, hb, hml, hown, hts⟩ (so_X1_outFor l G h v1 M _ hw) wm_RX1_134 wi_yX1_outFor wv_yX1_outFor wn_RX1 wc_yX1_outFor (by decide) ⟨Nat.le_of_ble_eq_true rfl, Nat.le_of_ble_eq_true rfl⟩ ⟨rfl, rfl⟩ kh (by decide) (mk1 kh) rfl hSt hTb hP hS rfl hl.1 rfl (Nat.le_of_ble_eq_true rfl) dX1_passOneHour_59 ⟨Nat.le_refl 0, Nat.le_refl 0⟩ (fun rr_ M_8 H locs hq hP hS => ?_)
        obtain ⟨r_9, rfl, hw⟩ := hq
        refine mw_V (As := [.ref (G.1 + (h + 12 + 4 + v1.toNatClampNeg)), .int r_9]) (rest := []) (T := TX1) (N := 9) (n := 2) ⟨hx, hb, hml, hown, hts⟩ (so_X1_seek l G h (h + 12 + 4 + v1.toNatClampNeg) r_9 M_8 _ hw) wm_RX1_137 wi_yX1_seek wv_yX1_seek wn_RX1 wc_yX1_seek (by decide) ⟨Nat.le_of_ble_eq_true rfl, Nat.le_of_ble_eq_true rfl⟩ ⟨rfl, rfl⟩ kh (by decide) (mk1 kh) rfl hSt hTb hP hS rfl hl.1 rfl (Nat.le_of_ble_eq_true rfl) dX1_passOneHour_62 ⟨Nat.le_refl 0, Nat.le_refl 0⟩ (fun rr_ M_10 H locs hq hP hS => ?_)
        obtain ⟨rfl, hw⟩ := hq
        obtain ⟨x_11, ex_11⟩ : ∃ z : Int32, z = v1 + 1 := ⟨_, rfl⟩
        have hw := hw x_11 ex_11
        refine lv_iinc (v := x_11) (lv' := [(1, .int x_11), (0, .ref (G.1 + h))]) hx hb dX1_passOneHour_65 hl (k := 1) rfl (by rw [ex_11]; rfl) (by decide) rfl (fun ls hl => ?_)
        refine lv_goto (tgt := 42) hx hb dX1_passOneHour_68 (by decide) ?_
        exact ih42 x_11 M_10 _ _ _ hw hP hS (lv_sub hl [1, 0] rfl)
  have L_2 : ∀ (n2 : Nat) (v1 : Int32) (M : Mem) (H : Heap) (locs : List Loc) (ls : Array Slot), l_X1_passOneHour_2 h Q n2 v1 M → va_P G.2.1 clsA (wl G M) H → va_S (inW G) s.heap H locs → lv_has ls 2 [(0, .ref (G.1 + h)), (1, .int v1)] → W p l e ({ frames := 4, cells := 0, slots := 0, locals := 124 } : Room) s m ([.ref (G.1 + h)] : List Value).toArray below meth c H locs 0 0 (MQ below (Pq G (Qv Q)) ([.ref (G.1 + h)] : List Value).toArray s 0 0 (inW G)) (F0 m 2 ls []) := by
    intro   n2
    induction n2 with
    | zero => intro v1 M H locs ls  hw hP hS hl; exact False.elim hw
    | succ n2 ih2 =>
      intro v1 M H locs ls  hw hP hS hl
      have hw : B_X1_passOneHour_2 h Q (l_X1_passOneHour_2 h Q n2) v1 M := hw
      unfold B_X1_passOneHour_2 at hw
      refine lv_iload_n hx hb dX1_passOneHour_2 rfl (lv_at hl 1 rfl) ?_
      refine lv_bipush (v := 10) hx hb dX1_passOneHour_3 (by decide) ?_
      refine lv_icmp_ge (tgt := 40) hx hb dX1_passOneHour_5 (by decide) (fun c_12 => ?_) (fun c_12 => ?_)
      · have hw := hw.1 c_12
        refine lv_iconst (v := 0) hx hb dX1_passOneHour_40 (by decide) ?_
        refine lv_istore_n (lv' := [(1, .int 0), (0, .ref (G.1 + h))]) hx hb dX1_passOneHour_41 rfl hl (by decide) rfl (fun ls hl => ?_)
        obtain ⟨n_, hw⟩ := hw
        exact L_42 n_ 0 M _ _ _ hw hP hS (lv_sub hl [1, 0] rfl)
      · have hw := hw.2 c_12
        refine lv_aload_n hx hb dX1_passOneHour_8 rfl (lv_at hl 0 rfl) ?_
        refine lv_iload_n hx hb dX1_passOneHour_9 rfl (lv_at hl 1 rfl) ?_
        refine lv_aload_n hx hb dX1_passOneHour_10 rfl (lv_at hl 0 rfl) ?_
        refine mw_get (ci := 1) (v := .ref (G.1 + (h + 1))) (C := RX1) (T := TX1) (N := 9) hx hb ht inX1 hown hSt hP kh (by decide) (mk1 kh) rfl 0 (by decide) (ht _ wf_RX1_14) rfl rfl dX1_passOneHour_11 ?_
        refine lv_iload_n hx hb dX1_passOneHour_14 rfl (lv_at hl 1 rfl) ?_
        refine lv_aload_n hx hb dX1_passOneHour_15 rfl (lv_at hl 0 rfl) ?_
        refine mw_get (ci := 1) (v := .ref (G.1 + (h + 11))) (C := RX1) (T := TX1) (N := 9) hx hb ht inX1 hown hSt hP kh (by decide) (mk1 kh) rfl 2 (by decide) (ht _ wf_RX1_23) rfl rfl dX1_passOneHour_16 ?_
        refine lv_iload_n hx hb dX1_passOneHour_19 rfl (lv_at hl 1 rfl) ?_
        obtain ⟨c_13, hw⟩ := hw
        refine mw_iald hx hb hSt hP (ks1_2 kh) (by rw [(ln1_2 kh)]; exact c_13) dX1_passOneHour_20 ?_
        refine lv_aload_n hx hb dX1_passOneHour_21 rfl (lv_at hl 0 rfl) ?_
        refine mw_get (ci := 1) (v := .int (M h 8)) (C := RX1) (T := TX1) (N := 9) hx hb ht inX1 hown hSt hP kh (by decide) (mk1 kh) rfl 8 (by decide) (ht _ wf_RX1_74) rfl rfl dX1_passOneHour_22 ?_
        refine lv_bipush (v := 24) hx hb dX1_passOneHour_25 (by decide) ?_
        refine lv_irem hx hb dX1_passOneHour_27 (by decide) ?_
        refine mw_V (As := [.int v1, .int (M (h + 11) v1.toNatClampNeg), .int (irm (M h 8) 24)]) (rest := [.int v1, .ref (G.1 + h)]) (T := TX0) (N := 3) (n := 3) ⟨hx, hb, hml, hown, hts⟩ (so_X0_gives l G (h + 1) v1 (M (h + 11) v1.toNatClampNeg) (irm (M h 8) 24) M _ hw) wm_RX1_120 wi_yX0_gives wv_yX0_gives wn_RX0 wc_yX0_gives (by decide) ⟨Nat.le_of_ble_eq_true rfl, Nat.le_of_ble_eq_true rfl⟩ ⟨rfl, rfl⟩ (ks1_0 kh) (by decide) (mk0 (ks1_0 kh)) rfl hSt hTb hP hS rfl hl.1 rfl (Nat.le_of_ble_eq_true rfl) dX1_passOneHour_28 ⟨Nat.le_refl 0, Nat.le_refl 0⟩ (fun rr_ M_14 H locs hq hP hS => ?_)
        obtain ⟨r_15, rfl, hw⟩ := hq
        refine mw_V (As := [.int v1, .int r_15]) (rest := []) (T := TX1) (N := 9) (n := 2) ⟨hx, hb, hml, hown, hts⟩ (so_X1_dropSnow l G h v1 r_15 M_14 _ hw) wm_RX1_130 wi_yX1_dropSnow wv_yX1_dropSnow wn_RX1 wc_yX1_dropSnow (by decide) ⟨Nat.le_of_ble_eq_true rfl, Nat.le_of_ble_eq_true rfl⟩ ⟨rfl, rfl⟩ kh (by decide) (mk1 kh) rfl hSt hTb hP hS rfl hl.1 rfl (Nat.le_of_ble_eq_true rfl) dX1_passOneHour_31 ⟨Nat.le_refl 0, Nat.le_refl 0⟩ (fun rr_ M_16 H locs hq hP hS => ?_)
        obtain ⟨rfl, hw⟩ := hq
        obtain ⟨x_17, ex_17⟩ : ∃ z : Int32, z = v1 + 1 := ⟨_, rfl⟩
        have hw := hw x_17 ex_17
        refine lv_iinc (v := x_17) (lv' := [(1, .int x_17), (0, .ref (G.1 + h))]) hx hb dX1_passOneHour_34 hl (k := 1) rfl (by rw [ex_17]; rfl) (by decide) rfl (fun ls hl => ?_)
        refine lv_goto (tgt := 2) hx hb dX1_passOneHour_37 (by decide) ?_
        exact ih2 x_17 M_16 _ _ _ hw hP hS (lv_sub hl [1, 0] rfl)
  refine lv_iconst (v := 0) hx hb dX1_passOneHour_0 (by decide) ?_
  refine lv_istore_n (lv' := [(1, .int 0), (0, .ref (G.1 + h))]) hx hb dX1_passOneHour_1 rfl hl (by decide) rfl (fun ls hl => ?_)
  obtain ⟨n_, hw⟩ := hw
  exact L_2 n_ 0 M _ _ _ hw hP hS (lv_sub hl [1, 0] rfl)
def B_X1_passHours_9 (h : Nat) (Q : Mem → Prop) (v1 : Int32) (K9 : Int32 → Mem → Prop) (v2 : Int32) (M : Mem) : Prop :=
  (v1 ≤ v2 → Q M) ∧ (¬ v1 ≤ v2 → wp_X1_passOneHour h M (fun M_2 => ∀ x_3 : Int32, x_3 = v2 + 1 → K9 x_3 M_2))
def l_X1_passHours_9 (h : Nat) (Q : Mem → Prop) (v1 : Int32) : Nat → Int32 → Mem → Prop
  | 0 => fun _ _ => False
  | n + 1 => B_X1_passHours_9 h Q v1 (l_X1_passHours_9 h Q v1 n)
def wp_X1_passHours (h : Nat) (a1 : Int32) (M : Mem) (Q : Mem → Prop) : Prop :=
  kdT h = 1 ∧ (wp_X3_clear (h + 14) M (fun M_4 => ∃ n, l_X1_passHours_9 h Q a1 n 0 M_4))
set_option maxHeartbeats 4000000 in
set_option maxRecDepth 100000 in
theorem so_X1_passHours (l : Launch) (G : Gm) (h : Nat) (a1 : Int32) (M : Mem) (Q : Mem → Prop) (hw : wp_X1_passHours h a1 M Q) : Ct l G yX1_passHours cX1_passHours 3 none ({ frames := 5, cells := 0, slots := 0, locals := 145 } : Room) [.ref (G.1 + h), .int a1] M (Qv Q) := by
  unfold wp_X1_passHours at hw
  obtain ⟨kh, hw⟩ := hw
  refine ct_of (by decide) (Nat.le_of_ble_eq_true rfl) ?_
  intro p e s m below meth c E_ ls H hl hP hS
  obtain ⟨hx, hb, hml, hown, hts, ht, hr, hlocks, hSt, hTb⟩ := E_
  have hl : lv_has ls 3 [(0, .ref (G.1 + h)), (1, .int a1)] := hl
  have L_9 : ∀ (v1 : Int32), ∀ (n9 : Nat) (v2 : Int32) (M : Mem) (H : Heap) (locs : List Loc) (ls : Array Slot), l_X1_passHours_9 h Q v1 n9 v2 M → va_P G.2.1 clsA (wl G M) H → va_S (inW G) s.heap H locs → lv_has ls 3 [(0, .ref (G.1 + h)), (1, .int v1), (2, .int v2)] → W p l e ({ frames := 5, cells := 0, slots := 0, locals := 145 } : Room) s m ([.ref (G.1 + h), .int a1] : List Value).toArray below meth c H locs 0 0 (MQ below (Pq G (Qv Q)) ([.ref (G.1 + h), .int a1] : List Value).toArray s 0 0 (inW G)) (F0 m 9 ls []) := by
    intro v1  n9
    induction n9 with
    | zero => intro v2 M H locs ls  hw hP hS hl; exact False.elim hw
    | succ n9 ih9 =>
      intro v2 M H locs ls  hw hP hS hl
      have hw : B_X1_passHours_9 h Q v1 (l_X1_passHours_9 h Q v1 n9) v2 M := hw
      unfold B_X1_passHours_9 at hw
      refine lv_iload_n hx hb dX1_passHours_9 rfl (lv_at hl 2 rfl) ?_
      refine lv_iload_n hx hb dX1_passHours_10 rfl (lv_at hl 1 rfl) ?_
      refine lv_icmp_ge (tgt := 24) hx hb dX1_passHours_11 (by decide) (fun c_1 => ?_) (fun c_1 => ?_)
      · have hw := hw.1 c_1
        exact W.vret hx hb hr (mw_end hP hSt hTb hS ⟨rfl, hw⟩) hS.2.2 dX1_passHours_24
      · have hw := hw.2 c_1
        refine lv_aload_n hx hb dX1_passHours_14 rfl (lv_at hl 0 rfl) ?_
        refine mw_V (As := []) (rest := []) (T := TX1) (N := 9) (n := 0) ⟨hx, hb, hml, hown, hts⟩ (so_X1_passOneHour l G h M _ hw) wm_RX1_127 wi_yX1_passOneHour wv_yX1_passOneHour wn_RX1 wc_yX1_passOneHour (by decide) ⟨Nat.le_of_ble_eq_true rfl, Nat.le_of_ble_eq_true rfl⟩ ⟨rfl, rfl⟩ kh (by decide) (mk1 kh) rfl hSt hTb hP hS rfl hl.1 rfl (Nat.le_of_ble_eq_true rfl) dX1_passHours_15 ⟨Nat.le_refl 0, Nat.le_refl 0⟩ (fun rr_ M_2 H locs hq hP hS => ?_)
        obtain ⟨rfl, hw⟩ := hq
        obtain ⟨x_3, ex_3⟩ : ∃ z : Int32, z = v2 + 1 := ⟨_, rfl⟩
        have hw := hw x_3 ex_3
        refine lv_iinc (v := x_3) (lv' := [(2, .int x_3), (0, .ref (G.1 + h)), (1, .int v1)]) hx hb dX1_passHours_18 hl (k := 2) rfl (by rw [ex_3]; rfl) (by decide) rfl (fun ls hl => ?_)
        refine lv_goto (tgt := 9) hx hb dX1_passHours_21 (by decide) ?_
        exact ih9 x_3 M_2 _ _ _ hw hP hS (lv_sub hl [1, 2, 0] rfl)
  refine lv_aload_n hx hb dX1_passHours_0 rfl (lv_at hl 0 rfl) ?_
  refine mw_get (ci := 1) (v := .ref (G.1 + (h + 14))) (C := RX1) (T := TX1) (N := 9) hx hb ht inX1 hown hSt hP kh (by decide) (mk1 kh) rfl 5 (by decide) (ht _ wf_RX1_42) rfl rfl dX1_passHours_1 ?_
  refine mw_V (As := []) (rest := []) (T := TX3) (N := 2) (n := 0) ⟨hx, hb, hml, hown, hts⟩ (so_X3_clear l G (h + 14) M _ hw) wm_RX1_124 wi_yX3_clear wv_yX3_clear wn_RX3 wc_yX3_clear (by decide) ⟨Nat.le_of_ble_eq_true rfl, Nat.le_of_ble_eq_true rfl⟩ ⟨rfl, rfl⟩ (ks1_5 kh) (by decide) (mk3 (ks1_5 kh)) rfl hSt hTb hP hS rfl hl.1 rfl (Nat.le_of_ble_eq_true rfl) dX1_passHours_4 ⟨Nat.le_refl 0, Nat.le_refl 0⟩ (fun rr_ M_4 H locs hq hP hS => ?_)
  obtain ⟨rfl, hw⟩ := hq
  refine lv_iconst (v := 0) hx hb dX1_passHours_7 (by decide) ?_
  refine lv_istore_n (lv' := [(2, .int 0), (0, .ref (G.1 + h)), (1, .int a1)]) hx hb dX1_passHours_8 rfl hl (by decide) rfl (fun ls hl => ?_)
  obtain ⟨n_, hw⟩ := hw
  exact L_9 a1 n_ 0 M_4 _ _ _ hw hP hS (lv_sub hl [1, 2, 0] rfl)
def wp_X8_drift (h : Nat) (M : Mem) (Q : Mem → Prop) : Prop :=
  kdT h = 8 ∧ (∀ M_1, M_1 = mu M h 3 (((M h 3) * 1103515245) + 12345) → ∀ x_2, x_2 = ius (M_1 h 3) 8 → wp_X1_dropSnow (h + 1) (irm x_2 10) (irm (x_2 / 8) 30) M_1 (fun M_3 => Q M_3))
set_option maxHeartbeats 4000000 in
set_option maxRecDepth 100000 in
theorem so_X8_drift (l : Launch) (G : Gm) (h : Nat) (M : Mem) (Q : Mem → Prop) (hw : wp_X8_drift h M Q) : Ct l G yX8_drift cX8_drift 2 none ({ frames := 3, cells := 0, slots := 0, locals := 82 } : Room) [.ref (G.1 + h)] M (Qv Q) := by
  unfold wp_X8_drift at hw
  obtain ⟨kh, hw⟩ := hw
  refine ct_of (by decide) (Nat.le_of_ble_eq_true rfl) ?_
  intro p e s m below meth c E_ ls H hl hP hS
  obtain ⟨hx, hb, hml, hown, hts, ht, hr, hlocks, hSt, hTb⟩ := E_
  have hl : lv_has ls 2 [(0, .ref (G.1 + h))] := hl
  refine lv_aload_n hx hb dX8_drift_0 rfl (lv_at hl 0 rfl) ?_
  refine lv_aload_n hx hb dX8_drift_1 rfl (lv_at hl 0 rfl) ?_
  refine mw_get (ci := 8) (v := .int (M h 3)) (C := RX8) (T := TX8) (N := 4) hx hb ht inX8 hown hSt hP kh (by decide) (mk8 kh) rfl 3 (by decide) (ht _ wf_RX8_30) rfl rfl dX8_drift_2 ?_
  refine lv_ldc (v := 1103515245) hx hb hown (ht _ wk_RX8_34) dX8_drift_5 ?_
  refine lv_imul hx hb dX8_drift_7 ?_
  refine lv_sipush (v := 12345) hx hb dX8_drift_8 (by decide) ?_
  refine lv_iadd hx hb dX8_drift_11 ?_
  refine mw_put (ci := 8) (v := ((M h 3) * 1103515245) + 12345) (ty := .int) (C := RX8) (T := TX8) (N := 4) hx hb ht inX8 tyX8 tyX8_ok nmX8 hown hSt hP hS kh (by decide) (mk8 kh) rfl 3 (by decide) (ht _ wf_RX8_30) rfl rfl (by decide +kernel) (vp_nar_int _) rfl (Nat.le_of_ble_eq_true rfl) (by rw [mk8 kh]; simp [mu]) dX8_drift_12 (fun M_1 H locs eM_1 hP hS => ?_)
  have hw := hw M_1 eM_1
  refine lv_aload_n hx hb dX8_drift_15 rfl (lv_at hl 0 rfl) ?_
  refine mw_get (ci := 8) (v := .int (M_1 h 3)) (C := RX8) (T := TX8) (N := 4) hx hb ht inX8 hown hSt hP kh (by decide) (mk8 kh) rfl 3 (by decide) (ht _ wf_RX8_30) rfl rfl dX8_drift_16 ?_
  refine lv_bipush (v := 8) hx hb dX8_drift_19 (by decide) ?_
  refine lv_iushr (v := ius (M_1 h 3) 8) hx hb dX8_drift_21 rfl ?_
  refine lv_topi (fun x_2 ex_2 => ?_)
  have hw := hw x_2 ex_2
  refine lv_istore_n (lv' := [(1, .int x_2), (0, .ref (G.1 + h))]) hx hb dX8_drift_22 rfl hl (by decide) rfl (fun ls hl => ?_)
  refine lv_aload_n hx hb dX8_drift_23 rfl (lv_at hl 1 rfl) ?_
  refine mw_get (ci := 8) (v := .ref (G.1 + (h + 1))) (C := RX8) (T := TX8) (N := 4) hx hb ht inX8 hown hSt hP kh (by decide) (mk8 kh) rfl 0 (by decide) (ht _ wf_RX8_12) rfl rfl dX8_drift_24 ?_
  refine lv_iload_n hx hb dX8_drift_27 rfl (lv_at hl 0 rfl) ?_
  refine lv_bipush (v := 10) hx hb dX8_drift_28 (by decide) ?_
  refine lv_irem hx hb dX8_drift_30 (by decide) ?_
  refine lv_iload_n hx hb dX8_drift_31 rfl (lv_at hl 0 rfl) ?_
  refine lv_bipush (v := 8) hx hb dX8_drift_32 (by decide) ?_
  refine lv_idiv hx hb dX8_drift_34 (by decide) ?_
  refine lv_bipush (v := 30) hx hb dX8_drift_35 (by decide) ?_
  refine lv_irem hx hb dX8_drift_37 (by decide) ?_
  refine mw_V (As := [.int (irm x_2 10), .int (irm (x_2 / 8) 30)]) (rest := []) (T := TX1) (N := 9) (n := 2) ⟨hx, hb, hml, hown, hts⟩ (so_X1_dropSnow l G (h + 1) (irm x_2 10) (irm (x_2 / 8) 30) M_1 _ hw) wm_RX8_35 wi_yX1_dropSnow wv_yX1_dropSnow wn_RX1 wc_yX1_dropSnow (by decide) ⟨Nat.le_of_ble_eq_true rfl, Nat.le_of_ble_eq_true rfl⟩ ⟨rfl, rfl⟩ (ks8_0 kh) (by decide) (mk1 (ks8_0 kh)) rfl hSt hTb hP hS rfl hl.1 rfl (Nat.le_of_ble_eq_true rfl) dX8_drift_38 ⟨Nat.le_refl 0, Nat.le_refl 0⟩ (fun rr_ M_3 H locs hq hP hS => ?_)
  obtain ⟨rfl, hw⟩ := hq
  exact W.vret hx hb hr (mw_end hP hSt hTb hS ⟨rfl, hw⟩) hS.2.2 dX8_drift_41
def B_X1_copyFrom_119 (h : Nat) (Q : Mem → Prop) (r1 : Nat) (K119 : Int32 → Mem → Prop) (v2 : Int32) (M : Mem) : Prop :=
  ((M h 7) ≤ v2 → ∀ M_2, M_2 = mu M h 8 (M r1 8) → Q M_2) ∧ (¬ (M h 7) ≤ v2 → vp_in v2 7 ∧ (vp_in v2 7 ∧ (wp_X5_copyFrom (h + 13 + 9 + v2.toNatClampNeg) (r1 + 13 + 9 + v2.toNatClampNeg) M (fun M_5 => ∀ x_6 : Int32, x_6 = v2 + 1 → K119 x_6 M_5))))
def l_X1_copyFrom_119 (h : Nat) (Q : Mem → Prop) (r1 : Nat) : Nat → Int32 → Mem → Prop
  | 0 => fun _ _ => False
  | n + 1 => B_X1_copyFrom_119 h Q r1 (l_X1_copyFrom_119 h Q r1 n)
def B_X1_copyFrom_75 (h : Nat) (Q : Mem → Prop) (r1 : Nat) (K75 : Int32 → Mem → Prop) (v2 : Int32) (M : Mem) : Prop :=
  ((M h 6) ≤ v2 → ∀ M_8, M_8 = mu M h 7 (imn (M r1 7) (7 : Int32)) → ∃ n, l_X1_copyFrom_119 h Q r1 n 0 M_8) ∧ (¬ (M h 6) ≤ v2 → vp_in v2 6 ∧ (vp_in v2 6 ∧ (wp_X4_copyFrom (h + 12 + 4 + v2.toNatClampNeg) (r1 + 12 + 4 + v2.toNatClampNeg) M (fun M_11 => ∀ x_12 : Int32, x_12 = v2 + 1 → K75 x_12 M_11))))
def l_X1_copyFrom_75 (h : Nat) (Q : Mem → Prop) (r1 : Nat) : Nat → Int32 → Mem → Prop
  | 0 => fun _ _ => False
  | n + 1 => B_X1_copyFrom_75 h Q r1 (l_X1_copyFrom_75 h Q r1 n)
def B_X1_copyFrom_36 (h : Nat) (Q : Mem → Prop) (r1 : Nat) (K36 : Int32 → Mem → Prop) (v2 : Int32) (M : Mem) : Prop :=
  (10 ≤ v2 → ∀ M_14, M_14 = mu M h 6 (imn (M r1 6) (6 : Int32)) → ∃ n, l_X1_copyFrom_75 h Q r1 n 0 M_14) ∧ (¬ 10 ≤ v2 → vp_in v2 10 ∧ (vp_in v2 10 ∧ ∀ M_17, M_17 = mu M (h + 11) v2.toNatClampNeg (M (r1 + 11) v2.toNatClampNeg) → ∀ x_18 : Int32, x_18 = v2 + 1 → K36 x_18 M_17))
def l_X1_copyFrom_36 (h : Nat) (Q : Mem → Prop) (r1 : Nat) : Nat → Int32 → Mem → Prop
  | 0 => fun _ _ => False
  | n + 1 => B_X1_copyFrom_36 h Q r1 (l_X1_copyFrom_36 h Q r1 n)
def wp_X1_copyFrom (h : Nat) (a1 : Nat) (M : Mem) (Q : Mem → Prop) : Prop :=
  kdT h = 1 ∧ kdT a1 = 1 ∧ (wp_X3_copyFrom (h + 1 + 1) (a1 + 1 + 1) M (fun M_19 => wp_X3_copyFrom (h + 6 + 1) (a1 + 6 + 1) M_19 (fun M_20 => ∃ n, l_X1_copyFrom_36 h Q a1 n 0 M_20)))
set_option maxHeartbeats 4000000 in
set_option maxRecDepth 100000 in
theorem so_X1_copyFrom (l : Launch) (G : Gm) (h : Nat) (a1 : Nat) (M : Mem) (Q : Mem → Prop) (hw : wp_X1_copyFrom h a1 M Q) : Ct l G yX1_copyFrom cX1_copyFrom 3 none ({ frames := 2, cells := 0, slots := 0, locals := 81 } : Room) [.ref (G.1 + h), .ref (G.1 + a1)] M (Qv Q) := by
  unfold wp_X1_copyFrom at hw
  obtain ⟨kh, ka1, hw⟩ := hw
  refine ct_of (by decide) (Nat.le_of_ble_eq_true rfl) ?_
  intro p e s m below meth c E_ ls H hl hP hS
  obtain ⟨hx, hb, hml, hown, hts, ht, hr, hlocks, hSt, hTb⟩ := E_
  have hl : lv_has ls 3 [(0, .ref (G.1 + h)), (1, .ref (G.1 + a1))] := hl
  have L_119 : ∀ (r1 : Nat), kdT r1 = 1 → ∀ (n119 : Nat) (v2 : Int32) (M : Mem) (H : Heap) (locs : List Loc) (ls : Array Slot), l_X1_copyFrom_119 h Q r1 n119 v2 M → va_P G.2.1 clsA (wl G M) H → va_S (inW G) s.heap H locs → lv_has ls 3 [(0, .ref (G.1 + h)), (1, .ref (G.1 + r1)), (2, .int v2)] → W p l e ({ frames := 2, cells := 0, slots := 0, locals := 81 } : Room) s m ([.ref (G.1 + h), .ref (G.1 + a1)] : List Value).toArray below meth c H locs 0 0 (MQ below (Pq G (Qv Q)) ([.ref (G.1 + h), .ref (G.1 + a1)] : List Value).toArray s 0 0 (inW G)) (F0 m 119 ls []) := by
    intro r1 kr1 n119
    induction n119 with
    | zero => intro v2 M H locs ls  hw hP hS hl; exact False.elim hw
    | succ n119 ih119 =>
      intro v2 M H locs ls  hw hP hS hl
      have hw : B_X1_copyFrom_119 h Q r1 (l_X1_copyFrom_119 h Q r1 n119) v2 M := hw
      unfold B_X1_copyFrom_119 at hw
      refine lv_iload_n hx hb dX1_copyFrom_119 rfl (lv_at hl 2 rfl) ?_
      refine lv_aload_n hx hb dX1_copyFrom_120 rfl (lv_at hl 0 rfl) ?_
      refine mw_get (ci := 1) (v := .int (M h 7)) (C := RX1) (T := TX1) (N := 9) hx hb ht inX1 hown hSt hP kh (by decide) (mk1 kh) rfl 7 (by decide) (ht _ wf_RX1_68) rfl rfl dX1_copyFrom_121 ?_
      refine lv_icmp_ge (tgt := 148) hx hb dX1_copyFrom_124 (by decide) (fun c_1 => ?_) (fun c_1 => ?_)
      · have hw := hw.1 c_1
        refine lv_aload_n hx hb dX1_copyFrom_148 rfl (lv_at hl 0 rfl) ?_
        refine lv_aload_n hx hb dX1_copyFrom_149 rfl (lv_at hl 1 rfl) ?_
        refine mw_get (ci := 1) (v := .int (M r1 8)) (C := RX1) (T := TX1) (N := 9) hx hb ht inX1 hown hSt hP kr1 (by decide) (mk1 kr1) rfl 8 (by decide) (ht _ wf_RX1_74) rfl rfl dX1_copyFrom_150 ?_
        refine mw_put (ci := 1) (v := M r1 8) (ty := .int) (C := RX1) (T := TX1) (N := 9) hx hb ht inX1 tyX1 tyX1_ok nmX1 hown hSt hP hS kh (by decide) (mk1 kh) rfl 8 (by decide) (ht _ wf_RX1_74) rfl rfl (by decide +kernel) (vp_nar_int _) rfl (Nat.le_of_ble_eq_true rfl) (by rw [mk1 kh]; simp [mu]) dX1_copyFrom_153 (fun M_2 H locs eM_2 hP hS => ?_)
        have hw := hw M_2 eM_2
        exact W.vret hx hb hr (mw_end hP hSt hTb hS ⟨rfl, hw⟩) hS.2.2 dX1_copyFrom_156
      · have hw := hw.2 c_1
        refine lv_aload_n hx hb dX1_copyFrom_127 rfl (lv_at hl 0 rfl) ?_
        refine mw_get (ci := 1) (v := .ref (G.1 + (h + 13))) (C := RX1) (T := TX1) (N := 9) hx hb ht inX1 hown hSt hP kh (by decide) (mk1 kh) rfl 4 (by decide) (ht _ wf_RX1_35) rfl rfl dX1_copyFrom_128 ?_
        refine lv_iload_n hx hb dX1_copyFrom_131 rfl (lv_at hl 2 rfl) ?_
        obtain ⟨c_3, hw⟩ := hw
        refine mw_aald13 hx hb hSt hP (ks1_4 kh) (by rw [(ln1_4 kh)]; exact c_3) dX1_copyFrom_132 ?_
        refine lv_aload_n hx hb dX1_copyFrom_133 rfl (lv_at hl 1 rfl) ?_
        refine mw_get (ci := 1) (v := .ref (G.1 + (r1 + 13))) (C := RX1) (T := TX1) (N := 9) hx hb ht inX1 hown hSt hP kr1 (by decide) (mk1 kr1) rfl 4 (by decide) (ht _ wf_RX1_35) rfl rfl dX1_copyFrom_134 ?_
        refine lv_iload_n hx hb dX1_copyFrom_137 rfl (lv_at hl 2 rfl) ?_
        obtain ⟨c_4, hw⟩ := hw
        refine mw_aald13 hx hb hSt hP (ks1_4 kr1) (by rw [(ln1_4 kr1)]; exact c_4) dX1_copyFrom_138 ?_
        refine mw_V (As := [.ref (G.1 + (r1 + 13 + 9 + v2.toNatClampNeg))]) (rest := []) (T := TX5) (N := 6) (n := 1) ⟨hx, hb, hml, hown, hts⟩ (so_X5_copyFrom l G (h + 13 + 9 + v2.toNatClampNeg) (r1 + 13 + 9 + v2.toNatClampNeg) M _ hw) wm_RX1_71 wi_yX5_copyFrom wv_yX5_copyFrom wn_RX5 wc_yX5_copyFrom (by decide) ⟨Nat.le_of_ble_eq_true rfl, Nat.le_of_ble_eq_true rfl⟩ ⟨rfl, rfl⟩ (ke13 (ks1_4 kh) (vp_lt (by rw [(ln1_4 kh)]; exact c_3))) (by decide) (mk5 (ke13 (ks1_4 kh) (vp_lt (by rw [(ln1_4 kh)]; exact c_3)))) rfl hSt hTb hP hS rfl hl.1 rfl (Nat.le_of_ble_eq_true rfl) dX1_copyFrom_139 ⟨Nat.le_refl 0, Nat.le_refl 0⟩ (fun rr_ M_5 H locs hq hP hS => ?_)
        obtain ⟨rfl, hw⟩ := hq
        obtain ⟨x_6, ex_6⟩ : ∃ z : Int32, z = v2 + 1 := ⟨_, rfl⟩
        have hw := hw x_6 ex_6
        refine lv_iinc (v := x_6) (lv' := [(2, .int x_6), (0, .ref (G.1 + h)), (1, .ref (G.1 + r1))]) hx hb dX1_copyFrom_142 hl (k := 2) rfl (by rw [ex_6]; rfl) (by decide) rfl (fun ls hl => ?_)
        refine lv_goto (tgt := 119) hx hb dX1_copyFrom_145 (by decide) ?_
        exact ih119 x_6 M_5 _ _ _ hw hP hS (lv_sub hl [1, 2, 0] rfl)
  have L_75 : ∀ (r1 : Nat), kdT r1 = 1 → ∀ (n75 : Nat) (v2 : Int32) (M : Mem) (H : Heap) (locs : List Loc) (ls : Array Slot), l_X1_copyFrom_75 h Q r1 n75 v2 M → va_P G.2.1 clsA (wl G M) H → va_S (inW G) s.heap H locs → lv_has ls 3 [(0, .ref (G.1 + h)), (1, .ref (G.1 + r1)), (2, .int v2)] → W p l e ({ frames := 2, cells := 0, slots := 0, locals := 81 } : Room) s m ([.ref (G.1 + h), .ref (G.1 + a1)] : List Value).toArray below meth c H locs 0 0 (MQ below (Pq G (Qv Q)) ([.ref (G.1 + h), .ref (G.1 + a1)] : List Value).toArray s 0 0 (inW G)) (F0 m 75 ls []) := by
    intro r1 kr1 n75
    induction n75 with
    | zero => intro v2 M H locs ls  hw hP hS hl; exact False.elim hw
    | succ n75 ih75 =>
      intro v2 M H locs ls  hw hP hS hl
      have hw : B_X1_copyFrom_75 h Q r1 (l_X1_copyFrom_75 h Q r1 n75) v2 M := hw
      unfold B_X1_copyFrom_75 at hw
      refine lv_iload_n hx hb dX1_copyFrom_75 rfl (lv_at hl 2 rfl) ?_
      refine lv_aload_n hx hb dX1_copyFrom_76 rfl (lv_at hl 0 rfl) ?_
      refine mw_get (ci := 1) (v := .int (M h 6)) (C := RX1) (T := TX1) (N := 9) hx hb ht inX1 hown hSt hP kh (by decide) (mk1 kh) rfl 6 (by decide) (ht _ wf_RX1_55) rfl rfl dX1_copyFrom_77 ?_
      refine lv_icmp_ge (tgt := 104) hx hb dX1_copyFrom_80 (by decide) (fun c_7 => ?_) (fun c_7 => ?_)
      · have hw := hw.1 c_7
        refine lv_aload_n hx hb dX1_copyFrom_104 rfl (lv_at hl 0 rfl) ?_
        refine lv_aload_n hx hb dX1_copyFrom_105 rfl (lv_at hl 1 rfl) ?_
        refine mw_get (ci := 1) (v := .int (M r1 7)) (C := RX1) (T := TX1) (N := 9) hx hb ht inX1 hown hSt hP kr1 (by decide) (mk1 kr1) rfl 7 (by decide) (ht _ wf_RX1_68) rfl rfl dX1_copyFrom_106 ?_
        refine lv_bipush (v := 7) hx hb dX1_copyFrom_109 (by decide) ?_
        refine va_mmin (rest := [.ref (G.1 + h)]) hx hb (hml.trans hl.1.symm) hown (ht _ wm_RX1_59) (ht _ wt_yJ9_min_7cf53) (ht _ wn_RJ9) (ht _ wc_yJ9_min_7cf53) (Nat.le_of_ble_eq_true rfl) (Nat.le_of_ble_eq_true rfl) (Nat.zero_le _) (Nat.zero_le _) dX1_copyFrom_111 ?_
        refine mw_put (ci := 1) (v := imn (M r1 7) (7 : Int32)) (ty := .int) (C := RX1) (T := TX1) (N := 9) hx hb ht inX1 tyX1 tyX1_ok nmX1 hown hSt hP hS kh (by decide) (mk1 kh) rfl 7 (by decide) (ht _ wf_RX1_68) rfl rfl (by decide +kernel) (vp_nar_int _) rfl (Nat.le_of_ble_eq_true rfl) (by rw [mk1 kh]; simp [mu]) dX1_copyFrom_114 (fun M_8 H locs eM_8 hP hS => ?_)
        have hw := hw M_8 eM_8
        refine lv_iconst (v := 0) hx hb dX1_copyFrom_117 (by decide) ?_
        refine lv_istore_n (lv' := [(2, .int 0), (0, .ref (G.1 + h)), (1, .ref (G.1 + r1))]) hx hb dX1_copyFrom_118 rfl hl (by decide) rfl (fun ls hl => ?_)
        obtain ⟨n_, hw⟩ := hw
        exact L_119 r1 kr1 n_ 0 M_8 _ _ _ hw hP hS (lv_sub hl [1, 2, 0] rfl)
      · have hw := hw.2 c_7
        refine lv_aload_n hx hb dX1_copyFrom_83 rfl (lv_at hl 0 rfl) ?_
        refine mw_get (ci := 1) (v := .ref (G.1 + (h + 12))) (C := RX1) (T := TX1) (N := 9) hx hb ht inX1 hown hSt hP kh (by decide) (mk1 kh) rfl 3 (by decide) (ht _ wf_RX1_29) rfl rfl dX1_copyFrom_84 ?_
        refine lv_iload_n hx hb dX1_copyFrom_87 rfl (lv_at hl 2 rfl) ?_
        obtain ⟨c_9, hw⟩ := hw
        refine mw_aald12 hx hb hSt hP (ks1_3 kh) (by rw [(ln1_3 kh)]; exact c_9) dX1_copyFrom_88 ?_
        refine lv_aload_n hx hb dX1_copyFrom_89 rfl (lv_at hl 1 rfl) ?_
        refine mw_get (ci := 1) (v := .ref (G.1 + (r1 + 12))) (C := RX1) (T := TX1) (N := 9) hx hb ht inX1 hown hSt hP kr1 (by decide) (mk1 kr1) rfl 3 (by decide) (ht _ wf_RX1_29) rfl rfl dX1_copyFrom_90 ?_
        refine lv_iload_n hx hb dX1_copyFrom_93 rfl (lv_at hl 2 rfl) ?_
        obtain ⟨c_10, hw⟩ := hw
        refine mw_aald12 hx hb hSt hP (ks1_3 kr1) (by rw [(ln1_3 kr1)]; exact c_10) dX1_copyFrom_94 ?_
        refine mw_V (As := [.ref (G.1 + (r1 + 12 + 4 + v2.toNatClampNeg))]) (rest := []) (T := TX4) (N := 2) (n := 1) ⟨hx, hb, hml, hown, hts⟩ (so_X4_copyFrom l G (h + 12 + 4 + v2.toNatClampNeg) (r1 + 12 + 4 + v2.toNatClampNeg) M _ hw) wm_RX1_65 wi_yX4_copyFrom wv_yX4_copyFrom wn_RX4 wc_yX4_copyFrom (by decide) ⟨Nat.le_of_ble_eq_true rfl, Nat.le_of_ble_eq_true rfl⟩ ⟨rfl, rfl⟩ (ke12 (ks1_3 kh) (vp_lt (by rw [(ln1_3 kh)]; exact c_9))) (by decide) (mk4 (ke12 (ks1_3 kh) (vp_lt (by rw [(ln1_3 kh)]; exact c_9)))) rfl hSt hTb hP hS rfl hl.1 rfl (Nat.le_of_ble_eq_true rfl) dX1_copyFrom_95 ⟨Nat.le_refl 0, Nat.le_refl 0⟩ (fun rr_ M_11 H locs hq hP hS => ?_)
        obtain ⟨rfl, hw⟩ := hq
        obtain ⟨x_12, ex_12⟩ : ∃ z : Int32, z = v2 + 1 := ⟨_, rfl⟩
        have hw := hw x_12 ex_12
        refine lv_iinc (v := x_12) (lv' := [(2, .int x_12), (0, .ref (G.1 + h)), (1, .ref (G.1 + r1))]) hx hb dX1_copyFrom_98 hl (k := 2) rfl (by rw [ex_12]; rfl) (by decide) rfl (fun ls hl => ?_)
        refine lv_goto (tgt := 75) hx hb dX1_copyFrom_101 (by decide) ?_
        exact ih75 x_12 M_11 _ _ _ hw hP hS (lv_sub hl [1, 2, 0] rfl)
  have L_36 : ∀ (r1 : Nat), kdT r1 = 1 → ∀ (n36 : Nat) (v2 : Int32) (M : Mem) (H : Heap) (locs : List Loc) (ls : Array Slot), l_X1_copyFrom_36 h Q r1 n36 v2 M → va_P G.2.1 clsA (wl G M) H → va_S (inW G) s.heap H locs → lv_has ls 3 [(0, .ref (G.1 + h)), (1, .ref (G.1 + r1)), (2, .int v2)] → W p l e ({ frames := 2, cells := 0, slots := 0, locals := 81 } : Room) s m ([.ref (G.1 + h), .ref (G.1 + a1)] : List Value).toArray below meth c H locs 0 0 (MQ below (Pq G (Qv Q)) ([.ref (G.1 + h), .ref (G.1 + a1)] : List Value).toArray s 0 0 (inW G)) (F0 m 36 ls []) := by
    intro r1 kr1 n36
    induction n36 with
    | zero => intro v2 M H locs ls  hw hP hS hl; exact False.elim hw
    | succ n36 ih36 =>
      intro v2 M H locs ls  hw hP hS hl
      have hw : B_X1_copyFrom_36 h Q r1 (l_X1_copyFrom_36 h Q r1 n36) v2 M := hw
      unfold B_X1_copyFrom_36 at hw
      refine lv_iload_n hx hb dX1_copyFrom_36 rfl (lv_at hl 2 rfl) ?_
      refine lv_bipush (v := 10) hx hb dX1_copyFrom_37 (by decide) ?_
      refine lv_icmp_ge (tgt := 60) hx hb dX1_copyFrom_39 (by decide) (fun c_13 => ?_) (fun c_13 => ?_)
      · have hw := hw.1 c_13
        refine lv_aload_n hx hb dX1_copyFrom_60 rfl (lv_at hl 0 rfl) ?_
        refine lv_aload_n hx hb dX1_copyFrom_61 rfl (lv_at hl 1 rfl) ?_
        refine mw_get (ci := 1) (v := .int (M r1 6)) (C := RX1) (T := TX1) (N := 9) hx hb ht inX1 hown hSt hP kr1 (by decide) (mk1 kr1) rfl 6 (by decide) (ht _ wf_RX1_55) rfl rfl dX1_copyFrom_62 ?_
        refine lv_bipush (v := 6) hx hb dX1_copyFrom_65 (by decide) ?_
        refine va_mmin (rest := [.ref (G.1 + h)]) hx hb (hml.trans hl.1.symm) hown (ht _ wm_RX1_59) (ht _ wt_yJ9_min_7cf53) (ht _ wn_RJ9) (ht _ wc_yJ9_min_7cf53) (Nat.le_of_ble_eq_true rfl) (Nat.le_of_ble_eq_true rfl) (Nat.zero_le _) (Nat.zero_le _) dX1_copyFrom_67 ?_
        refine mw_put (ci := 1) (v := imn (M r1 6) (6 : Int32)) (ty := .int) (C := RX1) (T := TX1) (N := 9) hx hb ht inX1 tyX1 tyX1_ok nmX1 hown hSt hP hS kh (by decide) (mk1 kh) rfl 6 (by decide) (ht _ wf_RX1_55) rfl rfl (by decide +kernel) (vp_nar_int _) rfl (Nat.le_of_ble_eq_true rfl) (by rw [mk1 kh]; simp [mu]) dX1_copyFrom_70 (fun M_14 H locs eM_14 hP hS => ?_)
        have hw := hw M_14 eM_14
        refine lv_iconst (v := 0) hx hb dX1_copyFrom_73 (by decide) ?_
        refine lv_istore_n (lv' := [(2, .int 0), (0, .ref (G.1 + h)), (1, .ref (G.1 + r1))]) hx hb dX1_copyFrom_74 rfl hl (by decide) rfl (fun ls hl => ?_)
        obtain ⟨n_, hw⟩ := hw
        exact L_75 r1 kr1 n_ 0 M_14 _ _ _ hw hP hS (lv_sub hl [1, 2, 0] rfl)
      · have hw := hw.2 c_13
        refine lv_aload_n hx hb dX1_copyFrom_42 rfl (lv_at hl 0 rfl) ?_
        refine mw_get (ci := 1) (v := .ref (G.1 + (h + 11))) (C := RX1) (T := TX1) (N := 9) hx hb ht inX1 hown hSt hP kh (by decide) (mk1 kh) rfl 2 (by decide) (ht _ wf_RX1_23) rfl rfl dX1_copyFrom_43 ?_
        refine lv_iload_n hx hb dX1_copyFrom_46 rfl (lv_at hl 2 rfl) ?_
        refine lv_aload_n hx hb dX1_copyFrom_47 rfl (lv_at hl 1 rfl) ?_
        refine mw_get (ci := 1) (v := .ref (G.1 + (r1 + 11))) (C := RX1) (T := TX1) (N := 9) hx hb ht inX1 hown hSt hP kr1 (by decide) (mk1 kr1) rfl 2 (by decide) (ht _ wf_RX1_23) rfl rfl dX1_copyFrom_48 ?_
        refine lv_iload_n hx hb dX1_copyFrom_51 rfl (lv_at hl 2 rfl) ?_
        obtain ⟨c_15, hw⟩ := hw
        refine mw_iald hx hb hSt hP (ks1_2 kr1) (by rw [(ln1_2 kr1)]; exact c_15) dX1_copyFrom_52 ?_
        obtain ⟨c_16, hw⟩ := hw
        refine mw_iast hx hb hSt hP hS (ks1_2 kh) (by rw [(ln1_2 kh)]; exact c_16) dX1_copyFrom_53 (fun M_17 H locs eM_17 hP hS => ?_)
        have hw := hw M_17 eM_17
        obtain ⟨x_18, ex_18⟩ : ∃ z : Int32, z = v2 + 1 := ⟨_, rfl⟩
        have hw := hw x_18 ex_18
        refine lv_iinc (v := x_18) (lv' := [(2, .int x_18), (0, .ref (G.1 + h)), (1, .ref (G.1 + r1))]) hx hb dX1_copyFrom_54 hl (k := 2) rfl (by rw [ex_18]; rfl) (by decide) rfl (fun ls hl => ?_)
        refine lv_goto (tgt := 36) hx hb dX1_copyFrom_57 (by decide) ?_
        exact ih36 x_18 M_17 _ _ _ hw hP hS (lv_sub hl [1, 2, 0] rfl)
  refine lv_aload_n hx hb dX1_copyFrom_0 rfl (lv_at hl 0 rfl) ?_
  refine mw_get (ci := 1) (v := .ref (G.1 + (h + 1))) (C := RX1) (T := TX1) (N := 9) hx hb ht inX1 hown hSt hP kh (by decide) (mk1 kh) rfl 0 (by decide) (ht _ wf_RX1_14) rfl rfl dX1_copyFrom_1 ?_
  refine mw_get (ci := 0) (v := .ref (G.1 + (h + 1 + 1))) (C := RX0) (T := TX0) (N := 3) hx hb ht inX0 hown hSt hP (ks1_0 kh) (by decide) (mk0 (ks1_0 kh)) rfl 1 (by decide) (ht _ wf_RX1_48) rfl rfl dX1_copyFrom_4 ?_
  refine lv_aload_n hx hb dX1_copyFrom_7 rfl (lv_at hl 1 rfl) ?_
  refine mw_get (ci := 1) (v := .ref (G.1 + (a1 + 1))) (C := RX1) (T := TX1) (N := 9) hx hb ht inX1 hown hSt hP ka1 (by decide) (mk1 ka1) rfl 0 (by decide) (ht _ wf_RX1_14) rfl rfl dX1_copyFrom_8 ?_
  refine mw_get (ci := 0) (v := .ref (G.1 + (a1 + 1 + 1))) (C := RX0) (T := TX0) (N := 3) hx hb ht inX0 hown hSt hP (ks1_0 ka1) (by decide) (mk0 (ks1_0 ka1)) rfl 1 (by decide) (ht _ wf_RX1_48) rfl rfl dX1_copyFrom_11 ?_
  refine mw_V (As := [.ref (G.1 + (a1 + 1 + 1))]) (rest := []) (T := TX3) (N := 2) (n := 1) ⟨hx, hb, hml, hown, hts⟩ (so_X3_copyFrom l G (h + 1 + 1) (a1 + 1 + 1) M _ hw) wm_RX1_51 wi_yX3_copyFrom wv_yX3_copyFrom wn_RX3 wc_yX3_copyFrom (by decide) ⟨Nat.le_of_ble_eq_true rfl, Nat.le_of_ble_eq_true rfl⟩ ⟨rfl, rfl⟩ (ks0_1 (ks1_0 kh)) (by decide) (mk3 (ks0_1 (ks1_0 kh))) rfl hSt hTb hP hS rfl hl.1 rfl (Nat.le_of_ble_eq_true rfl) dX1_copyFrom_14 ⟨Nat.le_refl 0, Nat.le_refl 0⟩ (fun rr_ M_19 H locs hq hP hS => ?_)
  obtain ⟨rfl, hw⟩ := hq
  refine lv_aload_n hx hb dX1_copyFrom_17 rfl (lv_at hl 0 rfl) ?_
  refine mw_get (ci := 1) (v := .ref (G.1 + (h + 6))) (C := RX1) (T := TX1) (N := 9) hx hb ht inX1 hown hSt hP kh (by decide) (mk1 kh) rfl 1 (by decide) (ht _ wf_RX1_20) rfl rfl dX1_copyFrom_18 ?_
  refine mw_get (ci := 0) (v := .ref (G.1 + (h + 6 + 1))) (C := RX0) (T := TX0) (N := 3) hx hb ht inX0 hown hSt hP (ks1_1 kh) (by decide) (mk0 (ks1_1 kh)) rfl 1 (by decide) (ht _ wf_RX1_48) rfl rfl dX1_copyFrom_21 ?_
  refine lv_aload_n hx hb dX1_copyFrom_24 rfl (lv_at hl 1 rfl) ?_
  refine mw_get (ci := 1) (v := .ref (G.1 + (a1 + 6))) (C := RX1) (T := TX1) (N := 9) hx hb ht inX1 hown hSt hP ka1 (by decide) (mk1 ka1) rfl 1 (by decide) (ht _ wf_RX1_20) rfl rfl dX1_copyFrom_25 ?_
  refine mw_get (ci := 0) (v := .ref (G.1 + (a1 + 6 + 1))) (C := RX0) (T := TX0) (N := 3) hx hb ht inX0 hown hSt hP (ks1_1 ka1) (by decide) (mk0 (ks1_1 ka1)) rfl 1 (by decide) (ht _ wf_RX1_48) rfl rfl dX1_copyFrom_28 ?_
  refine mw_V (As := [.ref (G.1 + (a1 + 6 + 1))]) (rest := []) (T := TX3) (N := 2) (n := 1) ⟨hx, hb, hml, hown, hts⟩ (so_X3_copyFrom l G (h + 6 + 1) (a1 + 6 + 1) M_19 _ hw) wm_RX1_51 wi_yX3_copyFrom wv_yX3_copyFrom wn_RX3 wc_yX3_copyFrom (by decide) ⟨Nat.le_of_ble_eq_true rfl, Nat.le_of_ble_eq_true rfl⟩ ⟨rfl, rfl⟩ (ks0_1 (ks1_1 kh)) (by decide) (mk3 (ks0_1 (ks1_1 kh))) rfl hSt hTb hP hS rfl hl.1 rfl (Nat.le_of_ble_eq_true rfl) dX1_copyFrom_31 ⟨Nat.le_refl 0, Nat.le_refl 0⟩ (fun rr_ M_20 H locs hq hP hS => ?_)
  obtain ⟨rfl, hw⟩ := hq
  refine lv_iconst (v := 0) hx hb dX1_copyFrom_34 (by decide) ?_
  refine lv_istore_n (lv' := [(2, .int 0), (0, .ref (G.1 + h)), (1, .ref (G.1 + a1))]) hx hb dX1_copyFrom_35 rfl hl (by decide) rfl (fun ls hl => ?_)
  obtain ⟨n_, hw⟩ := hw
  exact L_36 a1 ka1 n_ 0 M_20 _ _ _ hw hP hS (lv_sub hl [1, 2, 0] rfl)
def B_X1_passHoursFor_9 (h : Nat) (Q : Int32 → Mem → Prop) (v1 : Int32) (v2 : Int32) (K9 : Int32 → Mem → Prop) (v3 : Int32) (M : Mem) : Prop :=
  (v2 ≤ v3 → Q v3 M) ∧ (¬ v2 ≤ v3 → (v1 < 0 → Q v3 M) ∧ (¬ v1 < 0 → ((M h 7) ≤ v1 → Q v3 M) ∧ (¬ (M h 7) ≤ v1 → vp_in v1 7 ∧ (wp_X5_isSought (h + 13 + 9 + v1.toNatClampNeg) M (fun r_6 M_5 => (r_6 = 0 → Q v3 M_5) ∧ (¬ r_6 = 0 → wp_X1_passOneHour h M_5 (fun M_8 => ∀ x_9 : Int32, x_9 = v3 + 1 → K9 x_9 M_8)))))))
def l_X1_passHoursFor_9 (h : Nat) (Q : Int32 → Mem → Prop) (v1 : Int32) (v2 : Int32) : Nat → Int32 → Mem → Prop
  | 0 => fun _ _ => False
  | n + 1 => B_X1_passHoursFor_9 h Q v1 v2 (l_X1_passHoursFor_9 h Q v1 v2 n)
def wp_X1_passHoursFor (h : Nat) (a1 : Int32) (a2 : Int32) (M : Mem) (Q : Int32 → Mem → Prop) : Prop :=
  kdT h = 1 ∧ (wp_X3_clear (h + 14) M (fun M_10 => ∃ n, l_X1_passHoursFor_9 h Q a1 a2 n 0 M_10))
set_option maxHeartbeats 4000000 in
set_option maxRecDepth 100000 in
theorem so_X1_passHoursFor (l : Launch) (G : Gm) (h : Nat) (a1 : Int32) (a2 : Int32) (M : Mem) (Q : Int32 → Mem → Prop) (hw : wp_X1_passHoursFor h a1 a2 M Q) : Ct l G yX1_passHoursFor cX1_passHoursFor 4 (some .int) ({ frames := 5, cells := 0, slots := 0, locals := 145 } : Room) [.ref (G.1 + h), .int a1, .int a2] M (Qi Q) := by
  unfold wp_X1_passHoursFor at hw
  obtain ⟨kh, hw⟩ := hw
  refine ct_of (by decide) (Nat.le_of_ble_eq_true rfl) ?_
  intro p e s m below meth c E_ ls H hl hP hS
  obtain ⟨hx, hb, hml, hown, hts, ht, hr, hlocks, hSt, hTb⟩ := E_
  have hl : lv_has ls 4 [(0, .ref (G.1 + h)), (1, .int a1), (2, .int a2)] := hl
  have L_9 : ∀ (v1 : Int32) (v2 : Int32), ∀ (n9 : Nat) (v3 : Int32) (M : Mem) (H : Heap) (locs : List Loc) (ls : Array Slot), l_X1_passHoursFor_9 h Q v1 v2 n9 v3 M → va_P G.2.1 clsA (wl G M) H → va_S (inW G) s.heap H locs → lv_has ls 4 [(0, .ref (G.1 + h)), (1, .int v1), (2, .int v2), (3, .int v3)] → W p l e ({ frames := 5, cells := 0, slots := 0, locals := 145 } : Room) s m ([.ref (G.1 + h), .int a1, .int a2] : List Value).toArray below meth c H locs 0 0 (MQ below (Pq G (Qi Q)) ([.ref (G.1 + h), .int a1, .int a2] : List Value).toArray s 0 0 (inW G)) (F0 m 9 ls []) := by
    intro v1 v2  n9
    induction n9 with
    | zero => intro v3 M H locs ls  hw hP hS hl; exact False.elim hw
    | succ n9 ih9 =>
      intro v3 M H locs ls  hw hP hS hl
      have hw : B_X1_passHoursFor_9 h Q v1 v2 (l_X1_passHoursFor_9 h Q v1 v2 n9) v3 M := hw
      unfold B_X1_passHoursFor_9 at hw
      refine lv_iload_n hx hb dX1_passHoursFor_9 rfl (lv_at hl 3 rfl) ?_
      refine lv_iload_n hx hb dX1_passHoursFor_10 rfl (lv_at hl 2 rfl) ?_
      refine lv_icmp_ge (tgt := 48) hx hb dX1_passHoursFor_11 (by decide) (fun c_1 => ?_) (fun c_1 => ?_)
      · have hw := hw.1 c_1
        refine lv_iload_n hx hb dX1_passHoursFor_48 rfl (lv_at hl 3 rfl) ?_
        exact W.iret hx hb hr (mw_end hP hSt hTb hS ⟨_, rfl, hw⟩) hS.2.2 dX1_passHoursFor_49
      · have hw := hw.2 c_1
        refine lv_iload_n hx hb dX1_passHoursFor_14 rfl (lv_at hl 1 rfl) ?_
        refine lv_if_lt (tgt := 48) hx hb dX1_passHoursFor_15 (by decide) (fun c_2 => ?_) (fun c_2 => ?_)
        · have hw := hw.1 c_2
          refine lv_iload_n hx hb dX1_passHoursFor_48 rfl (lv_at hl 3 rfl) ?_
          exact W.iret hx hb hr (mw_end hP hSt hTb hS ⟨_, rfl, hw⟩) hS.2.2 dX1_passHoursFor_49
        · have hw := hw.2 c_2
          refine lv_iload_n hx hb dX1_passHoursFor_18 rfl (lv_at hl 1 rfl) ?_
          refine lv_aload_n hx hb dX1_passHoursFor_19 rfl (lv_at hl 0 rfl) ?_
          refine mw_get (ci := 1) (v := .int (M h 7)) (C := RX1) (T := TX1) (N := 9) hx hb ht inX1 hown hSt hP kh (by decide) (mk1 kh) rfl 7 (by decide) (ht _ wf_RX1_68) rfl rfl dX1_passHoursFor_20 ?_
          refine lv_icmp_ge (tgt := 48) hx hb dX1_passHoursFor_23 (by decide) (fun c_3 => ?_) (fun c_3 => ?_)
          · have hw := hw.1 c_3
            refine lv_iload_n hx hb dX1_passHoursFor_48 rfl (lv_at hl 3 rfl) ?_
            exact W.iret hx hb hr (mw_end hP hSt hTb hS ⟨_, rfl, hw⟩) hS.2.2 dX1_passHoursFor_49
          · have hw := hw.2 c_3
            refine lv_aload_n hx hb dX1_passHoursFor_26 rfl (lv_at hl 0 rfl) ?_
            refine mw_get (ci := 1) (v := .ref (G.1 + (h + 13))) (C := RX1) (T := TX1) (N := 9) hx hb ht inX1 hown hSt hP kh (by decide) (mk1 kh) rfl 4 (by decide) (ht _ wf_RX1_35) rfl rfl dX1_passHoursFor_27 ?_
            refine lv_iload_n hx hb dX1_passHoursFor_30 rfl (lv_at hl 1 rfl) ?_
            obtain ⟨c_4, hw⟩ := hw
            refine mw_aald13 hx hb hSt hP (ks1_4 kh) (by rw [(ln1_4 kh)]; exact c_4) dX1_passHoursFor_31 ?_
            refine mw_V (As := []) (rest := []) (T := TX5) (N := 6) (n := 0) ⟨hx, hb, hml, hown, hts⟩ (so_X5_isSought l G (h + 13 + 9 + v1.toNatClampNeg) M _ hw) wm_RX1_105 wi_yX5_isSought wv_yX5_isSought wn_RX5 wc_yX5_isSought (by decide) ⟨Nat.le_of_ble_eq_true rfl, Nat.le_of_ble_eq_true rfl⟩ ⟨rfl, rfl⟩ (ke13 (ks1_4 kh) (vp_lt (by rw [(ln1_4 kh)]; exact c_4))) (by decide) (mk5 (ke13 (ks1_4 kh) (vp_lt (by rw [(ln1_4 kh)]; exact c_4)))) rfl hSt hTb hP hS rfl hl.1 rfl (Nat.le_of_ble_eq_true rfl) dX1_passHoursFor_32 ⟨Nat.le_refl 0, Nat.le_refl 0⟩ (fun rr_ M_5 H locs hq hP hS => ?_)
            obtain ⟨r_6, rfl, hw⟩ := hq
            refine lv_if_eq (tgt := 48) hx hb dX1_passHoursFor_35 (by decide) (fun c_7 => ?_) (fun c_7 => ?_)
            · have hw := hw.1 c_7
              refine lv_iload_n hx hb dX1_passHoursFor_48 rfl (lv_at hl 3 rfl) ?_
              exact W.iret hx hb hr (mw_end hP hSt hTb hS ⟨_, rfl, hw⟩) hS.2.2 dX1_passHoursFor_49
            · have hw := hw.2 c_7
              refine lv_aload_n hx hb dX1_passHoursFor_38 rfl (lv_at hl 0 rfl) ?_
              refine mw_V (As := []) (rest := []) (T := TX1) (N := 9) (n := 0) ⟨hx, hb, hml, hown, hts⟩ (so_X1_passOneHour l G h M_5 _ hw) wm_RX1_127 wi_yX1_passOneHour wv_yX1_passOneHour wn_RX1 wc_yX1_passOneHour (by decide) ⟨Nat.le_of_ble_eq_true rfl, Nat.le_of_ble_eq_true rfl⟩ ⟨rfl, rfl⟩ kh (by decide) (mk1 kh) rfl hSt hTb hP hS rfl hl.1 rfl (Nat.le_of_ble_eq_true rfl) dX1_passHoursFor_39 ⟨Nat.le_refl 0, Nat.le_refl 0⟩ (fun rr_ M_8 H locs hq hP hS => ?_)
              obtain ⟨rfl, hw⟩ := hq
              obtain ⟨x_9, ex_9⟩ : ∃ z : Int32, z = v3 + 1 := ⟨_, rfl⟩
              have hw := hw x_9 ex_9
              refine lv_iinc (v := x_9) (lv' := [(3, .int x_9), (0, .ref (G.1 + h)), (1, .int v1), (2, .int v2)]) hx hb dX1_passHoursFor_42 hl (k := 3) rfl (by rw [ex_9]; rfl) (by decide) rfl (fun ls hl => ?_)
              refine lv_goto (tgt := 9) hx hb dX1_passHoursFor_45 (by decide) ?_
              exact ih9 x_9 M_8 _ _ _ hw hP hS (lv_sub hl [1, 2, 3, 0] rfl)
  refine lv_aload_n hx hb dX1_passHoursFor_0 rfl (lv_at hl 0 rfl) ?_
  refine mw_get (ci := 1) (v := .ref (G.1 + (h + 14))) (C := RX1) (T := TX1) (N := 9) hx hb ht inX1 hown hSt hP kh (by decide) (mk1 kh) rfl 5 (by decide) (ht _ wf_RX1_42) rfl rfl dX1_passHoursFor_1 ?_
  refine mw_V (As := []) (rest := []) (T := TX3) (N := 2) (n := 0) ⟨hx, hb, hml, hown, hts⟩ (so_X3_clear l G (h + 14) M _ hw) wm_RX1_124 wi_yX3_clear wv_yX3_clear wn_RX3 wc_yX3_clear (by decide) ⟨Nat.le_of_ble_eq_true rfl, Nat.le_of_ble_eq_true rfl⟩ ⟨rfl, rfl⟩ (ks1_5 kh) (by decide) (mk3 (ks1_5 kh)) rfl hSt hTb hP hS rfl hl.1 rfl (Nat.le_of_ble_eq_true rfl) dX1_passHoursFor_4 ⟨Nat.le_refl 0, Nat.le_refl 0⟩ (fun rr_ M_10 H locs hq hP hS => ?_)
  obtain ⟨rfl, hw⟩ := hq
  refine lv_iconst (v := 0) hx hb dX1_passHoursFor_7 (by decide) ?_
  refine lv_istore_n (lv' := [(3, .int 0), (0, .ref (G.1 + h)), (1, .int a1), (2, .int a2)]) hx hb dX1_passHoursFor_8 rfl hl (by decide) rfl (fun ls hl => ?_)
  obtain ⟨n_, hw⟩ := hw
  exact L_9 a1 a2 n_ 0 M_10 _ _ _ hw hP hS (lv_sub hl [1, 2, 3, 0] rfl)
def B_X1_takeFromMarks_2 (h : Nat) (Q : Mem → Prop) (v1 : Int32) (K2 : Int32 → Mem → Prop) (v2 : Int32) (M : Mem) : Prop :=
  ((M h 7) ≤ v2 → Q M) ∧ (¬ (M h 7) ≤ v2 → vp_in v2 7 ∧ (∀ M_3, M_3 = mu M (h + 13 + 9 + v2.toNatClampNeg) 4 ((M (h + 13 + 9 + v2.toNatClampNeg) 4) &&& ((ish 1 v1) ^^^ (-1))) → ∀ x_4 : Int32, x_4 = v2 + 1 → K2 x_4 M_3))
def l_X1_takeFromMarks_2 (h : Nat) (Q : Mem → Prop) (v1 : Int32) : Nat → Int32 → Mem → Prop
  | 0 => fun _ _ => False
  | n + 1 => B_X1_takeFromMarks_2 h Q v1 (l_X1_takeFromMarks_2 h Q v1 n)
def wp_X1_takeFromMarks (h : Nat) (a1 : Int32) (M : Mem) (Q : Mem → Prop) : Prop :=
  kdT h = 1 ∧ (∃ n, l_X1_takeFromMarks_2 h Q a1 n 0 M)
set_option maxHeartbeats 4000000 in
set_option maxRecDepth 100000 in
theorem so_X1_takeFromMarks (l : Launch) (G : Gm) (h : Nat) (a1 : Int32) (M : Mem) (Q : Mem → Prop) (hw : wp_X1_takeFromMarks h a1 M Q) : Ct l G yX1_takeFromMarks cX1_takeFromMarks 3 none ({ frames := 0, cells := 0, slots := 0, locals := 0 } : Room) [.ref (G.1 + h), .int a1] M (Qv Q) := by
  unfold wp_X1_takeFromMarks at hw
  obtain ⟨kh, hw⟩ := hw
  refine ct_of (by decide) (Nat.le_of_ble_eq_true rfl) ?_
  intro p e s m below meth c E_ ls H hl hP hS
  obtain ⟨hx, hb, hml, hown, hts, ht, hr, hlocks, hSt, hTb⟩ := E_
  have hl : lv_has ls 3 [(0, .ref (G.1 + h)), (1, .int a1)] := hl
  have L_2 : ∀ (v1 : Int32), ∀ (n2 : Nat) (v2 : Int32) (M : Mem) (H : Heap) (locs : List Loc) (ls : Array Slot), l_X1_takeFromMarks_2 h Q v1 n2 v2 M → va_P G.2.1 clsA (wl G M) H → va_S (inW G) s.heap H locs → lv_has ls 3 [(0, .ref (G.1 + h)), (1, .int v1), (2, .int v2)] → W p l e ({ frames := 0, cells := 0, slots := 0, locals := 0 } : Room) s m ([.ref (G.1 + h), .int a1] : List Value).toArray below meth c H locs 0 0 (MQ below (Pq G (Qv Q)) ([.ref (G.1 + h), .int a1] : List Value).toArray s 0 0 (inW G)) (F0 m 2 ls []) := by
    intro v1  n2
    induction n2 with
    | zero => intro v2 M H locs ls  hw hP hS hl; exact False.elim hw
    | succ n2 ih2 =>
      intro v2 M H locs ls  hw hP hS hl
      have hw : B_X1_takeFromMarks_2 h Q v1 (l_X1_takeFromMarks_2 h Q v1 n2) v2 M := hw
      unfold B_X1_takeFromMarks_2 at hw
      refine lv_iload_n hx hb dX1_takeFromMarks_2 rfl (lv_at hl 2 rfl) ?_
      refine lv_aload_n hx hb dX1_takeFromMarks_3 rfl (lv_at hl 0 rfl) ?_
      refine mw_get (ci := 1) (v := .int (M h 7)) (C := RX1) (T := TX1) (N := 9) hx hb ht inX1 hown hSt hP kh (by decide) (mk1 kh) rfl 7 (by decide) (ht _ wf_RX1_68) rfl rfl dX1_takeFromMarks_4 ?_
      refine lv_icmp_ge (tgt := 35) hx hb dX1_takeFromMarks_7 (by decide) (fun c_1 => ?_) (fun c_1 => ?_)
      · have hw := hw.1 c_1
        exact W.vret hx hb hr (mw_end hP hSt hTb hS ⟨rfl, hw⟩) hS.2.2 dX1_takeFromMarks_35
      · have hw := hw.2 c_1
        refine lv_aload_n hx hb dX1_takeFromMarks_10 rfl (lv_at hl 0 rfl) ?_
        refine mw_get (ci := 1) (v := .ref (G.1 + (h + 13))) (C := RX1) (T := TX1) (N := 9) hx hb ht inX1 hown hSt hP kh (by decide) (mk1 kh) rfl 4 (by decide) (ht _ wf_RX1_35) rfl rfl dX1_takeFromMarks_11 ?_
        refine lv_iload_n hx hb dX1_takeFromMarks_14 rfl (lv_at hl 2 rfl) ?_
        obtain ⟨c_2, hw⟩ := hw
        refine mw_aald13 hx hb hSt hP (ks1_4 kh) (by rw [(ln1_4 kh)]; exact c_2) dX1_takeFromMarks_15 ?_
        refine lv_dup hx hb dX1_takeFromMarks_16 rfl ?_
        refine mw_get (ci := 5) (v := .int (M (h + 13 + 9 + v2.toNatClampNeg) 4)) (C := RX5) (T := TX5) (N := 6) hx hb ht inX5 hown hSt hP (ke13 (ks1_4 kh) (vp_lt (by rw [(ln1_4 kh)]; exact c_2))) (by decide) (mk5 (ke13 (ks1_4 kh) (vp_lt (by rw [(ln1_4 kh)]; exact c_2)))) rfl 4 (by decide) (ht _ wf_RX1_108) rfl rfl dX1_takeFromMarks_17 ?_
        refine lv_iconst (v := 1) hx hb dX1_takeFromMarks_20 (by decide) ?_
        refine lv_iload_n hx hb dX1_takeFromMarks_21 rfl (lv_at hl 1 rfl) ?_
        refine lv_ishl hx hb dX1_takeFromMarks_22 ?_
        refine lv_iconst (v := (-1)) hx hb dX1_takeFromMarks_23 (by decide) ?_
        refine lv_ixor hx hb dX1_takeFromMarks_24 ?_
        refine lv_iand hx hb dX1_takeFromMarks_25 ?_
        refine mw_put (ci := 5) (v := (M (h + 13 + 9 + v2.toNatClampNeg) 4) &&& ((ish 1 v1) ^^^ (-1))) (ty := .int) (C := RX5) (T := TX5) (N := 6) hx hb ht inX5 tyX5 tyX5_ok nmX5 hown hSt hP hS (ke13 (ks1_4 kh) (vp_lt (by rw [(ln1_4 kh)]; exact c_2))) (by decide) (mk5 (ke13 (ks1_4 kh) (vp_lt (by rw [(ln1_4 kh)]; exact c_2)))) rfl 4 (by decide) (ht _ wf_RX1_108) rfl rfl (by decide +kernel) (vp_nar_int _) rfl (Nat.le_of_ble_eq_true rfl) (by rw [mk5 (ke13 (ks1_4 kh) (vp_lt (by rw [(ln1_4 kh)]; exact c_2)))]; simp [mu]) dX1_takeFromMarks_26 (fun M_3 H locs eM_3 hP hS => ?_)
        have hw := hw M_3 eM_3
        obtain ⟨x_4, ex_4⟩ : ∃ z : Int32, z = v2 + 1 := ⟨_, rfl⟩
        have hw := hw x_4 ex_4
        refine lv_iinc (v := x_4) (lv' := [(2, .int x_4), (0, .ref (G.1 + h)), (1, .int v1)]) hx hb dX1_takeFromMarks_29 hl (k := 2) rfl (by rw [ex_4]; rfl) (by decide) rfl (fun ls hl => ?_)
        refine lv_goto (tgt := 2) hx hb dX1_takeFromMarks_32 (by decide) ?_
        exact ih2 x_4 M_3 _ _ _ hw hP hS (lv_sub hl [1, 2, 0] rfl)
  refine lv_iconst (v := 0) hx hb dX1_takeFromMarks_0 (by decide) ?_
  refine lv_istore_n (lv' := [(2, .int 0), (0, .ref (G.1 + h)), (1, .int a1)]) hx hb dX1_takeFromMarks_1 rfl hl (by decide) rfl (fun ls hl => ?_)
  obtain ⟨n_, hw⟩ := hw
  exact L_2 a1 n_ 0 M _ _ _ hw hP hS (lv_sub hl [1, 2, 0] rfl)
def b_X1_soughtSet_32 (h : Nat) (Q : Int32 → Mem → Prop) (K4 : Int32 → Int32 → Mem → Prop) (v2 : Int32) (s0 : Int32) (s1 : Int32) (M : Mem) : Prop :=
  ∀ x_1, x_1 = s0 ||| s1 → ∀ x_2 : Int32, x_2 = v2 + 1 → K4 x_1 x_2 M
def B_X1_soughtSet_4 (h : Nat) (Q : Int32 → Mem → Prop) (K4 : Int32 → Int32 → Mem → Prop) (v1 : Int32) (v2 : Int32) (M : Mem) : Prop :=
  ((M h 7) ≤ v2 → Q v1 M) ∧ (¬ (M h 7) ≤ v2 → vp_in v2 7 ∧ (wp_X5_isSought (h + 13 + 9 + v2.toNatClampNeg) M (fun r_6 M_5 => (r_6 = 0 → b_X1_soughtSet_32 h Q K4 v2 v1 0 M_5) ∧ (¬ r_6 = 0 → b_X1_soughtSet_32 h Q K4 v2 v1 (ish 1 v2) M_5))))
def l_X1_soughtSet_4 (h : Nat) (Q : Int32 → Mem → Prop) : Nat → Int32 → Int32 → Mem → Prop
  | 0 => fun _ _ _ => False
  | n + 1 => B_X1_soughtSet_4 h Q (l_X1_soughtSet_4 h Q n)
def wp_X1_soughtSet (h : Nat) (M : Mem) (Q : Int32 → Mem → Prop) : Prop :=
  kdT h = 1 ∧ (∃ n, l_X1_soughtSet_4 h Q n 0 0 M)
set_option maxHeartbeats 4000000 in
set_option maxRecDepth 100000 in
theorem so_X1_soughtSet (l : Launch) (G : Gm) (h : Nat) (M : Mem) (Q : Int32 → Mem → Prop) (hw : wp_X1_soughtSet h M Q) : Ct l G yX1_soughtSet cX1_soughtSet 3 (some .int) ({ frames := 1, cells := 0, slots := 0, locals := 20 } : Room) [.ref (G.1 + h)] M (Qi Q) := by
  unfold wp_X1_soughtSet at hw
  obtain ⟨kh, hw⟩ := hw
  refine ct_of (by decide) (Nat.le_of_ble_eq_true rfl) ?_
  intro p e s m below meth c E_ ls H hl hP hS
  obtain ⟨hx, hb, hml, hown, hts, ht, hr, hlocks, hSt, hTb⟩ := E_
  have hl : lv_has ls 3 [(0, .ref (G.1 + h))] := hl
  have L_4 : ∀ (n4 : Nat) (v1 : Int32) (v2 : Int32) (M : Mem) (H : Heap) (locs : List Loc) (ls : Array Slot), l_X1_soughtSet_4 h Q n4 v1 v2 M → va_P G.2.1 clsA (wl G M) H → va_S (inW G) s.heap H locs → lv_has ls 3 [(0, .ref (G.1 + h)), (1, .int v1), (2, .int v2)] → W p l e ({ frames := 1, cells := 0, slots := 0, locals := 20 } : Room) s m ([.ref (G.1 + h)] : List Value).toArray below meth c H locs 0 0 (MQ below (Pq G (Qi Q)) ([.ref (G.1 + h)] : List Value).toArray s 0 0 (inW G)) (F0 m 4 ls []) := by
    intro   n4
    induction n4 with
    | zero => intro v1 v2 M H locs ls  hw hP hS hl; exact False.elim hw
    | succ n4 ih4 =>
      have J_32 : ∀ (v2 : Int32) (s0 : Int32) (s1 : Int32) (M : Mem) (H : Heap) (locs : List Loc) (ls : Array Slot), b_X1_soughtSet_32 h Q (l_X1_soughtSet_4 h Q n4) v2 s0 s1 M → va_P G.2.1 clsA (wl G M) H → va_S (inW G) s.heap H locs → lv_has ls 3 [(0, .ref (G.1 + h)), (2, .int v2)] → W p l e ({ frames := 1, cells := 0, slots := 0, locals := 20 } : Room) s m ([.ref (G.1 + h)] : List Value).toArray below meth c H locs 0 0 (MQ below (Pq G (Qi Q)) ([.ref (G.1 + h)] : List Value).toArray s 0 0 (inW G)) (F0 m 32 ls [.int s1, .int s0]) := by
        intro v2 s0 s1 M H locs ls  hw hP hS hl
        unfold b_X1_soughtSet_32 at hw
        refine lv_ior hx hb dX1_soughtSet_32 ?_
        refine lv_topi (fun x_1 ex_1 => ?_)
        have hw := hw x_1 ex_1
        refine lv_istore_n (lv' := [(1, .int x_1), (0, .ref (G.1 + h)), (2, .int v2)]) hx hb dX1_soughtSet_33 rfl hl (by decide) rfl (fun ls hl => ?_)
        obtain ⟨x_2, ex_2⟩ : ∃ z : Int32, z = v2 + 1 := ⟨_, rfl⟩
        have hw := hw x_2 ex_2
        refine lv_iinc (v := x_2) (lv' := [(2, .int x_2), (1, .int x_1), (0, .ref (G.1 + h))]) hx hb dX1_soughtSet_34 hl (k := 2) rfl (by rw [ex_2]; rfl) (by decide) rfl (fun ls hl => ?_)
        refine lv_goto (tgt := 4) hx hb dX1_soughtSet_37 (by decide) ?_
        exact ih4 x_1 x_2 M _ _ _ hw hP hS (lv_sub hl [2, 1, 0] rfl)
      intro v1 v2 M H locs ls  hw hP hS hl
      have hw : B_X1_soughtSet_4 h Q (l_X1_soughtSet_4 h Q n4) v1 v2 M := hw
      unfold B_X1_soughtSet_4 at hw
      refine lv_iload_n hx hb dX1_soughtSet_4 rfl (lv_at hl 2 rfl) ?_
      refine lv_aload_n hx hb dX1_soughtSet_5 rfl (lv_at hl 0 rfl) ?_
      refine mw_get (ci := 1) (v := .int (M h 7)) (C := RX1) (T := TX1) (N := 9) hx hb ht inX1 hown hSt hP kh (by decide) (mk1 kh) rfl 7 (by decide) (ht _ wf_RX1_68) rfl rfl dX1_soughtSet_6 ?_
      refine lv_icmp_ge (tgt := 40) hx hb dX1_soughtSet_9 (by decide) (fun c_3 => ?_) (fun c_3 => ?_)
      · have hw := hw.1 c_3
        refine lv_iload_n hx hb dX1_soughtSet_40 rfl (lv_at hl 1 rfl) ?_
        exact W.iret hx hb hr (mw_end hP hSt hTb hS ⟨_, rfl, hw⟩) hS.2.2 dX1_soughtSet_41
      · have hw := hw.2 c_3
        refine lv_iload_n hx hb dX1_soughtSet_12 rfl (lv_at hl 1 rfl) ?_
        refine lv_aload_n hx hb dX1_soughtSet_13 rfl (lv_at hl 0 rfl) ?_
        refine mw_get (ci := 1) (v := .ref (G.1 + (h + 13))) (C := RX1) (T := TX1) (N := 9) hx hb ht inX1 hown hSt hP kh (by decide) (mk1 kh) rfl 4 (by decide) (ht _ wf_RX1_35) rfl rfl dX1_soughtSet_14 ?_
        refine lv_iload_n hx hb dX1_soughtSet_17 rfl (lv_at hl 2 rfl) ?_
        obtain ⟨c_4, hw⟩ := hw
        refine mw_aald13 hx hb hSt hP (ks1_4 kh) (by rw [(ln1_4 kh)]; exact c_4) dX1_soughtSet_18 ?_
        refine mw_V (As := []) (rest := [.int v1]) (T := TX5) (N := 6) (n := 0) ⟨hx, hb, hml, hown, hts⟩ (so_X5_isSought l G (h + 13 + 9 + v2.toNatClampNeg) M _ hw) wm_RX1_105 wi_yX5_isSought wv_yX5_isSought wn_RX5 wc_yX5_isSought (by decide) ⟨Nat.le_of_ble_eq_true rfl, Nat.le_of_ble_eq_true rfl⟩ ⟨rfl, rfl⟩ (ke13 (ks1_4 kh) (vp_lt (by rw [(ln1_4 kh)]; exact c_4))) (by decide) (mk5 (ke13 (ks1_4 kh) (vp_lt (by rw [(ln1_4 kh)]; exact c_4)))) rfl hSt hTb hP hS rfl hl.1 rfl (Nat.le_of_ble_eq_true rfl) dX1_soughtSet_19 ⟨Nat.le_refl 0, Nat.le_refl 0⟩ (fun rr_ M_5 H locs hq hP hS => ?_)
        obtain ⟨r_6, rfl, hw⟩ := hq
        refine lv_if_eq (tgt := 31) hx hb dX1_soughtSet_22 (by decide) (fun c_7 => ?_) (fun c_7 => ?_)
        · have hw := hw.1 c_7
          refine lv_iconst (v := 0) hx hb dX1_soughtSet_31 (by decide) ?_
          exact J_32 v2 v1 0 M_5 _ _ _ hw hP hS (lv_sub hl [0, 2] rfl)
        · have hw := hw.2 c_7
          refine lv_iconst (v := 1) hx hb dX1_soughtSet_25 (by decide) ?_
          refine lv_iload_n hx hb dX1_soughtSet_26 rfl (lv_at hl 2 rfl) ?_
          refine lv_ishl hx hb dX1_soughtSet_27 ?_
          refine lv_goto (tgt := 32) hx hb dX1_soughtSet_28 (by decide) ?_
          exact J_32 v2 v1 (ish 1 v2) M_5 _ _ _ hw hP hS (lv_sub hl [0, 2] rfl)
  refine lv_iconst (v := 0) hx hb dX1_soughtSet_0 (by decide) ?_
  refine lv_istore_n (lv' := [(1, .int 0), (0, .ref (G.1 + h))]) hx hb dX1_soughtSet_1 rfl hl (by decide) rfl (fun ls hl => ?_)
  refine lv_iconst (v := 0) hx hb dX1_soughtSet_2 (by decide) ?_
  refine lv_istore_n (lv' := [(2, .int 0), (1, .int 0), (0, .ref (G.1 + h))]) hx hb dX1_soughtSet_3 rfl hl (by decide) rfl (fun ls hl => ?_)
  obtain ⟨n_, hw⟩ := hw
  exact L_4 n_ 0 0 M _ _ _ hw hP hS (lv_sub hl [2, 1, 0] rfl)
def B_X1_hasSnowAs_2 (h : Nat) (Q : Int32 → Mem → Prop) (r1 : Nat) (K2 : Int32 → Mem → Prop) (v2 : Int32) (M : Mem) : Prop :=
  (10 ≤ v2 → Q 1 M) ∧ (¬ 10 ≤ v2 → wp_X3_holds r1 v2 M (fun r_3 M_2 => (r_3 = 0 → Q 0 M_2) ∧ (¬ r_3 = 0 → wp_X3_get r1 v2 M_2 (fun r_6 M_5 => vp_in v2 10 ∧ ((r_6 = (M_5 (h + 11) v2.toNatClampNeg) → ∀ x_9 : Int32, x_9 = v2 + 1 → K2 x_9 M_5) ∧ (¬ r_6 = (M_5 (h + 11) v2.toNatClampNeg) → Q 0 M_5))))))
def l_X1_hasSnowAs_2 (h : Nat) (Q : Int32 → Mem → Prop) (r1 : Nat) : Nat → Int32 → Mem → Prop
  | 0 => fun _ _ => False
  | n + 1 => B_X1_hasSnowAs_2 h Q r1 (l_X1_hasSnowAs_2 h Q r1 n)
def wp_X1_hasSnowAs (h : Nat) (a1 : Nat) (M : Mem) (Q : Int32 → Mem → Prop) : Prop :=
  kdT h = 1 ∧ kdT a1 = 3 ∧ (∃ n, l_X1_hasSnowAs_2 h Q a1 n 0 M)
set_option maxHeartbeats 4000000 in
set_option maxRecDepth 100000 in
theorem so_X1_hasSnowAs (l : Launch) (G : Gm) (h : Nat) (a1 : Nat) (M : Mem) (Q : Int32 → Mem → Prop) (hw : wp_X1_hasSnowAs h a1 M Q) : Ct l G yX1_hasSnowAs cX1_hasSnowAs 3 (some .boolean) ({ frames := 1, cells := 0, slots := 0, locals := 21 } : Room) [.ref (G.1 + h), .ref (G.1 + a1)] M (Qi Q) := by
  unfold wp_X1_hasSnowAs at hw
  obtain ⟨kh, ka1, hw⟩ := hw
  refine ct_of (by decide) (Nat.le_of_ble_eq_true rfl) ?_
  intro p e s m below meth c E_ ls H hl hP hS
  obtain ⟨hx, hb, hml, hown, hts, ht, hr, hlocks, hSt, hTb⟩ := E_
  have hl : lv_has ls 3 [(0, .ref (G.1 + h)), (1, .ref (G.1 + a1))] := hl
  have L_2 : ∀ (r1 : Nat), kdT r1 = 3 → ∀ (n2 : Nat) (v2 : Int32) (M : Mem) (H : Heap) (locs : List Loc) (ls : Array Slot), l_X1_hasSnowAs_2 h Q r1 n2 v2 M → va_P G.2.1 clsA (wl G M) H → va_S (inW G) s.heap H locs → lv_has ls 3 [(0, .ref (G.1 + h)), (1, .ref (G.1 + r1)), (2, .int v2)] → W p l e ({ frames := 1, cells := 0, slots := 0, locals := 21 } : Room) s m ([.ref (G.1 + h), .ref (G.1 + a1)] : List Value).toArray below meth c H locs 0 0 (MQ below (Pq G (Qi Q)) ([.ref (G.1 + h), .ref (G.1 + a1)] : List Value).toArray s 0 0 (inW G)) (F0 m 2 ls []) := by
    intro r1 kr1 n2
    induction n2 with
    | zero => intro v2 M H locs ls  hw hP hS hl; exact False.elim hw
    | succ n2 ih2 =>
      intro v2 M H locs ls  hw hP hS hl
      have hw : B_X1_hasSnowAs_2 h Q r1 (l_X1_hasSnowAs_2 h Q r1 n2) v2 M := hw
      unfold B_X1_hasSnowAs_2 at hw
      refine lv_iload_n hx hb dX1_hasSnowAs_2 rfl (lv_at hl 2 rfl) ?_
      refine lv_bipush (v := 10) hx hb dX1_hasSnowAs_3 (by decide) ?_
      refine lv_icmp_ge (tgt := 38) hx hb dX1_hasSnowAs_5 (by decide) (fun c_1 => ?_) (fun c_1 => ?_)
      · have hw := hw.1 c_1
        refine lv_iconst (v := 1) hx hb dX1_hasSnowAs_38 (by decide) ?_
        exact W.zret (v := 1) hx hb hr (by decide) (mw_end hP hSt hTb hS ⟨_, rfl, hw⟩) hS.2.2 dX1_hasSnowAs_39
      · have hw := hw.2 c_1
        refine lv_aload_n hx hb dX1_hasSnowAs_8 rfl (lv_at hl 1 rfl) ?_
        refine lv_iload_n hx hb dX1_hasSnowAs_9 rfl (lv_at hl 2 rfl) ?_
        refine mw_V (As := [.int v2]) (rest := []) (T := TX3) (N := 2) (n := 1) ⟨hx, hb, hml, hown, hts⟩ (so_X3_holds l G r1 v2 M _ hw) wm_RX1_84 wi_yX3_holds wv_yX3_holds wn_RX3 wc_yX3_holds (by decide) ⟨Nat.le_of_ble_eq_true rfl, Nat.le_of_ble_eq_true rfl⟩ ⟨rfl, rfl⟩ kr1 (by decide) (mk3 kr1) rfl hSt hTb hP hS rfl hl.1 rfl (Nat.le_of_ble_eq_true rfl) dX1_hasSnowAs_10 ⟨Nat.le_refl 0, Nat.le_refl 0⟩ (fun rr_ M_2 H locs hq hP hS => ?_)
        obtain ⟨r_3, rfl, hw⟩ := hq
        refine lv_if_eq (tgt := 30) hx hb dX1_hasSnowAs_13 (by decide) (fun c_4 => ?_) (fun c_4 => ?_)
        · have hw := hw.1 c_4
          refine lv_iconst (v := 0) hx hb dX1_hasSnowAs_30 (by decide) ?_
          exact W.zret (v := 0) hx hb hr (by decide) (mw_end hP hSt hTb hS ⟨_, rfl, hw⟩) hS.2.2 dX1_hasSnowAs_31
        · have hw := hw.2 c_4
          refine lv_aload_n hx hb dX1_hasSnowAs_16 rfl (lv_at hl 1 rfl) ?_
          refine lv_iload_n hx hb dX1_hasSnowAs_17 rfl (lv_at hl 2 rfl) ?_
          refine mw_V (As := [.int v2]) (rest := []) (T := TX3) (N := 2) (n := 1) ⟨hx, hb, hml, hown, hts⟩ (so_X3_get l G r1 v2 M_2 _ hw) wm_RX1_87 wi_yX3_get wv_yX3_get wn_RX3 wc_yX3_get (by decide) ⟨Nat.le_of_ble_eq_true rfl, Nat.le_of_ble_eq_true rfl⟩ ⟨rfl, rfl⟩ kr1 (by decide) (mk3 kr1) rfl hSt hTb hP hS rfl hl.1 rfl (Nat.le_of_ble_eq_true rfl) dX1_hasSnowAs_18 ⟨Nat.le_refl 0, Nat.le_refl 0⟩ (fun rr_ M_5 H locs hq hP hS => ?_)
          obtain ⟨r_6, rfl, hw⟩ := hq
          refine lv_aload_n hx hb dX1_hasSnowAs_21 rfl (lv_at hl 0 rfl) ?_
          refine mw_get (ci := 1) (v := .ref (G.1 + (h + 11))) (C := RX1) (T := TX1) (N := 9) hx hb ht inX1 hown hSt hP kh (by decide) (mk1 kh) rfl 2 (by decide) (ht _ wf_RX1_23) rfl rfl dX1_hasSnowAs_22 ?_
          refine lv_iload_n hx hb dX1_hasSnowAs_25 rfl (lv_at hl 2 rfl) ?_
          obtain ⟨c_7, hw⟩ := hw
          refine mw_iald hx hb hSt hP (ks1_2 kh) (by rw [(ln1_2 kh)]; exact c_7) dX1_hasSnowAs_26 ?_
          refine lv_icmp_eq (tgt := 32) hx hb dX1_hasSnowAs_27 (by decide) (fun c_8 => ?_) (fun c_8 => ?_)
          · have hw := hw.1 c_8
            obtain ⟨x_9, ex_9⟩ : ∃ z : Int32, z = v2 + 1 := ⟨_, rfl⟩
            have hw := hw x_9 ex_9
            refine lv_iinc (v := x_9) (lv' := [(2, .int x_9), (0, .ref (G.1 + h)), (1, .ref (G.1 + r1))]) hx hb dX1_hasSnowAs_32 hl (k := 2) rfl (by rw [ex_9]; rfl) (by decide) rfl (fun ls hl => ?_)
            refine lv_goto (tgt := 2) hx hb dX1_hasSnowAs_35 (by decide) ?_
            exact ih2 x_9 M_5 _ _ _ hw hP hS (lv_sub hl [1, 2, 0] rfl)
          · have hw := hw.2 c_8
            refine lv_iconst (v := 0) hx hb dX1_hasSnowAs_30 (by decide) ?_
            exact W.zret (v := 0) hx hb hr (by decide) (mw_end hP hSt hTb hS ⟨_, rfl, hw⟩) hS.2.2 dX1_hasSnowAs_31
  refine lv_iconst (v := 0) hx hb dX1_hasSnowAs_0 (by decide) ?_
  refine lv_istore_n (lv' := [(2, .int 0), (0, .ref (G.1 + h)), (1, .ref (G.1 + a1))]) hx hb dX1_hasSnowAs_1 rfl hl (by decide) rfl (fun ls hl => ?_)
  obtain ⟨n_, hw⟩ := hw
  exact L_2 a1 ka1 n_ 0 M _ _ _ hw hP hS (lv_sub hl [1, 2, 0] rfl)
def wp_X8_copyFrom (h : Nat) (a1 : Nat) (M : Mem) (Q : Mem → Prop) : Prop :=
  kdT h = 8 ∧ kdT a1 = 8 ∧ (wp_X1_copyFrom (h + 1) (a1 + 1) M (fun M_1 => wp_X3_copyFrom (h + 30) (a1 + 30) M_1 (fun M_2 => wp_X3_copyFrom (h + 32) (a1 + 32) M_2 (fun M_3 => ∀ M_4, M_4 = mu M_3 h 3 (M_3 a1 3) → Q M_4))))
set_option maxHeartbeats 4000000 in
set_option maxRecDepth 100000 in
theorem so_X8_copyFrom (l : Launch) (G : Gm) (h : Nat) (a1 : Nat) (M : Mem) (Q : Mem → Prop) (hw : wp_X8_copyFrom h a1 M Q) : Ct l G yX8_copyFrom cX8_copyFrom 2 none ({ frames := 3, cells := 0, slots := 0, locals := 103 } : Room) [.ref (G.1 + h), .ref (G.1 + a1)] M (Qv Q) := by
  unfold wp_X8_copyFrom at hw
  obtain ⟨kh, ka1, hw⟩ := hw
  refine ct_of (by decide) (Nat.le_of_ble_eq_true rfl) ?_
  intro p e s m below meth c E_ ls H hl hP hS
  obtain ⟨hx, hb, hml, hown, hts, ht, hr, hlocks, hSt, hTb⟩ := E_
  have hl : lv_has ls 2 [(0, .ref (G.1 + h)), (1, .ref (G.1 + a1))] := hl
  refine lv_aload_n hx hb dX8_copyFrom_0 rfl (lv_at hl 0 rfl) ?_
  refine mw_get (ci := 8) (v := .ref (G.1 + (h + 1))) (C := RX8) (T := TX8) (N := 4) hx hb ht inX8 hown hSt hP kh (by decide) (mk8 kh) rfl 0 (by decide) (ht _ wf_RX8_12) rfl rfl dX8_copyFrom_1 ?_
  refine lv_aload_n hx hb dX8_copyFrom_4 rfl (lv_at hl 1 rfl) ?_
  refine mw_get (ci := 8) (v := .ref (G.1 + (a1 + 1))) (C := RX8) (T := TX8) (N := 4) hx hb ht inX8 hown hSt hP ka1 (by decide) (mk8 ka1) rfl 0 (by decide) (ht _ wf_RX8_12) rfl rfl dX8_copyFrom_5 ?_
  refine mw_V (As := [.ref (G.1 + (a1 + 1))]) (rest := []) (T := TX1) (N := 9) (n := 1) ⟨hx, hb, hml, hown, hts⟩ (so_X1_copyFrom l G (h + 1) (a1 + 1) M _ hw) wm_RX8_39 wi_yX1_copyFrom wv_yX1_copyFrom wn_RX1 wc_yX1_copyFrom (by decide) ⟨Nat.le_of_ble_eq_true rfl, Nat.le_of_ble_eq_true rfl⟩ ⟨rfl, rfl⟩ (ks8_0 kh) (by decide) (mk1 (ks8_0 kh)) rfl hSt hTb hP hS rfl hl.1 rfl (Nat.le_of_ble_eq_true rfl) dX8_copyFrom_8 ⟨Nat.le_refl 0, Nat.le_refl 0⟩ (fun rr_ M_1 H locs hq hP hS => ?_)
  obtain ⟨rfl, hw⟩ := hq
  refine lv_aload_n hx hb dX8_copyFrom_11 rfl (lv_at hl 0 rfl) ?_
  refine mw_get (ci := 8) (v := .ref (G.1 + (h + 30))) (C := RX8) (T := TX8) (N := 4) hx hb ht inX8 hown hSt hP kh (by decide) (mk8 kh) rfl 1 (by decide) (ht _ wf_RX8_23) rfl rfl dX8_copyFrom_12 ?_
  refine lv_aload_n hx hb dX8_copyFrom_15 rfl (lv_at hl 1 rfl) ?_
  refine mw_get (ci := 8) (v := .ref (G.1 + (a1 + 30))) (C := RX8) (T := TX8) (N := 4) hx hb ht inX8 hown hSt hP ka1 (by decide) (mk8 ka1) rfl 1 (by decide) (ht _ wf_RX8_23) rfl rfl dX8_copyFrom_16 ?_
  refine mw_V (As := [.ref (G.1 + (a1 + 30))]) (rest := []) (T := TX3) (N := 2) (n := 1) ⟨hx, hb, hml, hown, hts⟩ (so_X3_copyFrom l G (h + 30) (a1 + 30) M_1 _ hw) wm_RX8_43 wi_yX3_copyFrom wv_yX3_copyFrom wn_RX3 wc_yX3_copyFrom (by decide) ⟨Nat.le_of_ble_eq_true rfl, Nat.le_of_ble_eq_true rfl⟩ ⟨rfl, rfl⟩ (ks8_1 kh) (by decide) (mk3 (ks8_1 kh)) rfl hSt hTb hP hS rfl hl.1 rfl (Nat.le_of_ble_eq_true rfl) dX8_copyFrom_19 ⟨Nat.le_refl 0, Nat.le_refl 0⟩ (fun rr_ M_2 H locs hq hP hS => ?_)
  obtain ⟨rfl, hw⟩ := hq
  refine lv_aload_n hx hb dX8_copyFrom_22 rfl (lv_at hl 0 rfl) ?_
  refine mw_get (ci := 8) (v := .ref (G.1 + (h + 32))) (C := RX8) (T := TX8) (N := 4) hx hb ht inX8 hown hSt hP kh (by decide) (mk8 kh) rfl 2 (by decide) (ht _ wf_RX8_27) rfl rfl dX8_copyFrom_23 ?_
  refine lv_aload_n hx hb dX8_copyFrom_26 rfl (lv_at hl 1 rfl) ?_
  refine mw_get (ci := 8) (v := .ref (G.1 + (a1 + 32))) (C := RX8) (T := TX8) (N := 4) hx hb ht inX8 hown hSt hP ka1 (by decide) (mk8 ka1) rfl 2 (by decide) (ht _ wf_RX8_27) rfl rfl dX8_copyFrom_27 ?_
  refine mw_V (As := [.ref (G.1 + (a1 + 32))]) (rest := []) (T := TX3) (N := 2) (n := 1) ⟨hx, hb, hml, hown, hts⟩ (so_X3_copyFrom l G (h + 32) (a1 + 32) M_2 _ hw) wm_RX8_43 wi_yX3_copyFrom wv_yX3_copyFrom wn_RX3 wc_yX3_copyFrom (by decide) ⟨Nat.le_of_ble_eq_true rfl, Nat.le_of_ble_eq_true rfl⟩ ⟨rfl, rfl⟩ (ks8_2 kh) (by decide) (mk3 (ks8_2 kh)) rfl hSt hTb hP hS rfl hl.1 rfl (Nat.le_of_ble_eq_true rfl) dX8_copyFrom_30 ⟨Nat.le_refl 0, Nat.le_refl 0⟩ (fun rr_ M_3 H locs hq hP hS => ?_)
  obtain ⟨rfl, hw⟩ := hq
  refine lv_aload_n hx hb dX8_copyFrom_33 rfl (lv_at hl 0 rfl) ?_
  refine lv_aload_n hx hb dX8_copyFrom_34 rfl (lv_at hl 1 rfl) ?_
  refine mw_get (ci := 8) (v := .int (M_3 a1 3)) (C := RX8) (T := TX8) (N := 4) hx hb ht inX8 hown hSt hP ka1 (by decide) (mk8 ka1) rfl 3 (by decide) (ht _ wf_RX8_30) rfl rfl dX8_copyFrom_35 ?_
  refine mw_put (ci := 8) (v := M_3 a1 3) (ty := .int) (C := RX8) (T := TX8) (N := 4) hx hb ht inX8 tyX8 tyX8_ok nmX8 hown hSt hP hS kh (by decide) (mk8 kh) rfl 3 (by decide) (ht _ wf_RX8_30) rfl rfl (by decide +kernel) (vp_nar_int _) rfl (Nat.le_of_ble_eq_true rfl) (by rw [mk8 kh]; simp [mu]) dX8_copyFrom_38 (fun M_4 H locs eM_4 hP hS => ?_)
  have hw := hw M_4 eM_4
  exact W.vret hx hb hr (mw_end hP hSt hTb hS ⟨rfl, hw⟩) hS.2.2 dX8_copyFrom_41
def b_X1_lostSet_32 (h : Nat) (Q : Int32 → Mem → Prop) (K4 : Int32 → Int32 → Mem → Prop) (v2 : Int32) (s0 : Int32) (s1 : Int32) (M : Mem) : Prop :=
  ∀ x_1, x_1 = s0 ||| s1 → ∀ x_2 : Int32, x_2 = v2 + 1 → K4 x_1 x_2 M
def B_X1_lostSet_4 (h : Nat) (Q : Int32 → Mem → Prop) (K4 : Int32 → Int32 → Mem → Prop) (v1 : Int32) (v2 : Int32) (M : Mem) : Prop :=
  ((M h 7) ≤ v2 → Q v1 M) ∧ (¬ (M h 7) ≤ v2 → vp_in v2 7 ∧ (wp_X5_isLost (h + 13 + 9 + v2.toNatClampNeg) M (fun r_6 M_5 => (r_6 = 0 → b_X1_lostSet_32 h Q K4 v2 v1 0 M_5) ∧ (¬ r_6 = 0 → b_X1_lostSet_32 h Q K4 v2 v1 (ish 1 v2) M_5))))
def l_X1_lostSet_4 (h : Nat) (Q : Int32 → Mem → Prop) : Nat → Int32 → Int32 → Mem → Prop
  | 0 => fun _ _ _ => False
  | n + 1 => B_X1_lostSet_4 h Q (l_X1_lostSet_4 h Q n)
def wp_X1_lostSet (h : Nat) (M : Mem) (Q : Int32 → Mem → Prop) : Prop :=
  kdT h = 1 ∧ (∃ n, l_X1_lostSet_4 h Q n 0 0 M)
set_option maxHeartbeats 4000000 in
set_option maxRecDepth 100000 in
theorem so_X1_lostSet (l : Launch) (G : Gm) (h : Nat) (M : Mem) (Q : Int32 → Mem → Prop) (hw : wp_X1_lostSet h M Q) : Ct l G yX1_lostSet cX1_lostSet 3 (some .int) ({ frames := 1, cells := 0, slots := 0, locals := 20 } : Room) [.ref (G.1 + h)] M (Qi Q) := by
  unfold wp_X1_lostSet at hw
  obtain ⟨kh, hw⟩ := hw
  refine ct_of (by decide) (Nat.le_of_ble_eq_true rfl) ?_
  intro p e s m below meth c E_ ls H hl hP hS
  obtain ⟨hx, hb, hml, hown, hts, ht, hr, hlocks, hSt, hTb⟩ := E_
  have hl : lv_has ls 3 [(0, .ref (G.1 + h))] := hl
  have L_4 : ∀ (n4 : Nat) (v1 : Int32) (v2 : Int32) (M : Mem) (H : Heap) (locs : List Loc) (ls : Array Slot), l_X1_lostSet_4 h Q n4 v1 v2 M → va_P G.2.1 clsA (wl G M) H → va_S (inW G) s.heap H locs → lv_has ls 3 [(0, .ref (G.1 + h)), (1, .int v1), (2, .int v2)] → W p l e ({ frames := 1, cells := 0, slots := 0, locals := 20 } : Room) s m ([.ref (G.1 + h)] : List Value).toArray below meth c H locs 0 0 (MQ below (Pq G (Qi Q)) ([.ref (G.1 + h)] : List Value).toArray s 0 0 (inW G)) (F0 m 4 ls []) := by
    intro   n4
    induction n4 with
    | zero => intro v1 v2 M H locs ls  hw hP hS hl; exact False.elim hw
    | succ n4 ih4 =>
      have J_32 : ∀ (v2 : Int32) (s0 : Int32) (s1 : Int32) (M : Mem) (H : Heap) (locs : List Loc) (ls : Array Slot), b_X1_lostSet_32 h Q (l_X1_lostSet_4 h Q n4) v2 s0 s1 M → va_P G.2.1 clsA (wl G M) H → va_S (inW G) s.heap H locs → lv_has ls 3 [(0, .ref (G.1 + h)), (2, .int v2)] → W p l e ({ frames := 1, cells := 0, slots := 0, locals := 20 } : Room) s m ([.ref (G.1 + h)] : List Value).toArray below meth c H locs 0 0 (MQ below (Pq G (Qi Q)) ([.ref (G.1 + h)] : List Value).toArray s 0 0 (inW G)) (F0 m 32 ls [.int s1, .int s0]) := by
        intro v2 s0 s1 M H locs ls  hw hP hS hl
        unfold b_X1_lostSet_32 at hw
        refine lv_ior hx hb dX1_lostSet_32 ?_
        refine lv_topi (fun x_1 ex_1 => ?_)
        have hw := hw x_1 ex_1
        refine lv_istore_n (lv' := [(1, .int x_1), (0, .ref (G.1 + h)), (2, .int v2)]) hx hb dX1_lostSet_33 rfl hl (by decide) rfl (fun ls hl => ?_)
        obtain ⟨x_2, ex_2⟩ : ∃ z : Int32, z = v2 + 1 := ⟨_, rfl⟩
        have hw := hw x_2 ex_2
        refine lv_iinc (v := x_2) (lv' := [(2, .int x_2), (1, .int x_1), (0, .ref (G.1 + h))]) hx hb dX1_lostSet_34 hl (k := 2) rfl (by rw [ex_2]; rfl) (by decide) rfl (fun ls hl => ?_)
        refine lv_goto (tgt := 4) hx hb dX1_lostSet_37 (by decide) ?_
        exact ih4 x_1 x_2 M _ _ _ hw hP hS (lv_sub hl [2, 1, 0] rfl)
      intro v1 v2 M H locs ls  hw hP hS hl
      have hw : B_X1_lostSet_4 h Q (l_X1_lostSet_4 h Q n4) v1 v2 M := hw
      unfold B_X1_lostSet_4 at hw
      refine lv_iload_n hx hb dX1_lostSet_4 rfl (lv_at hl 2 rfl) ?_
      refine lv_aload_n hx hb dX1_lostSet_5 rfl (lv_at hl 0 rfl) ?_
      refine mw_get (ci := 1) (v := .int (M h 7)) (C := RX1) (T := TX1) (N := 9) hx hb ht inX1 hown hSt hP kh (by decide) (mk1 kh) rfl 7 (by decide) (ht _ wf_RX1_68) rfl rfl dX1_lostSet_6 ?_
      refine lv_icmp_ge (tgt := 40) hx hb dX1_lostSet_9 (by decide) (fun c_3 => ?_) (fun c_3 => ?_)
      · have hw := hw.1 c_3
        refine lv_iload_n hx hb dX1_lostSet_40 rfl (lv_at hl 1 rfl) ?_
        exact W.iret hx hb hr (mw_end hP hSt hTb hS ⟨_, rfl, hw⟩) hS.2.2 dX1_lostSet_41
      · have hw := hw.2 c_3
        refine lv_iload_n hx hb dX1_lostSet_12 rfl (lv_at hl 1 rfl) ?_
        refine lv_aload_n hx hb dX1_lostSet_13 rfl (lv_at hl 0 rfl) ?_
        refine mw_get (ci := 1) (v := .ref (G.1 + (h + 13))) (C := RX1) (T := TX1) (N := 9) hx hb ht inX1 hown hSt hP kh (by decide) (mk1 kh) rfl 4 (by decide) (ht _ wf_RX1_35) rfl rfl dX1_lostSet_14 ?_
        refine lv_iload_n hx hb dX1_lostSet_17 rfl (lv_at hl 2 rfl) ?_
        obtain ⟨c_4, hw⟩ := hw
        refine mw_aald13 hx hb hSt hP (ks1_4 kh) (by rw [(ln1_4 kh)]; exact c_4) dX1_lostSet_18 ?_
        refine mw_V (As := []) (rest := [.int v1]) (T := TX5) (N := 6) (n := 0) ⟨hx, hb, hml, hown, hts⟩ (so_X5_isLost l G (h + 13 + 9 + v2.toNatClampNeg) M _ hw) wm_RX1_101 wi_yX5_isLost wv_yX5_isLost wn_RX5 wc_yX5_isLost (by decide) ⟨Nat.le_of_ble_eq_true rfl, Nat.le_of_ble_eq_true rfl⟩ ⟨rfl, rfl⟩ (ke13 (ks1_4 kh) (vp_lt (by rw [(ln1_4 kh)]; exact c_4))) (by decide) (mk5 (ke13 (ks1_4 kh) (vp_lt (by rw [(ln1_4 kh)]; exact c_4)))) rfl hSt hTb hP hS rfl hl.1 rfl (Nat.le_of_ble_eq_true rfl) dX1_lostSet_19 ⟨Nat.le_refl 0, Nat.le_refl 0⟩ (fun rr_ M_5 H locs hq hP hS => ?_)
        obtain ⟨r_6, rfl, hw⟩ := hq
        refine lv_if_eq (tgt := 31) hx hb dX1_lostSet_22 (by decide) (fun c_7 => ?_) (fun c_7 => ?_)
        · have hw := hw.1 c_7
          refine lv_iconst (v := 0) hx hb dX1_lostSet_31 (by decide) ?_
          exact J_32 v2 v1 0 M_5 _ _ _ hw hP hS (lv_sub hl [0, 2] rfl)
        · have hw := hw.2 c_7
          refine lv_iconst (v := 1) hx hb dX1_lostSet_25 (by decide) ?_
          refine lv_iload_n hx hb dX1_lostSet_26 rfl (lv_at hl 2 rfl) ?_
          refine lv_ishl hx hb dX1_lostSet_27 ?_
          refine lv_goto (tgt := 32) hx hb dX1_lostSet_28 (by decide) ?_
          exact J_32 v2 v1 (ish 1 v2) M_5 _ _ _ hw hP hS (lv_sub hl [0, 2] rfl)
  refine lv_iconst (v := 0) hx hb dX1_lostSet_0 (by decide) ?_
  refine lv_istore_n (lv' := [(1, .int 0), (0, .ref (G.1 + h))]) hx hb dX1_lostSet_1 rfl hl (by decide) rfl (fun ls hl => ?_)
  refine lv_iconst (v := 0) hx hb dX1_lostSet_2 (by decide) ?_
  refine lv_istore_n (lv' := [(2, .int 0), (1, .int 0), (0, .ref (G.1 + h))]) hx hb dX1_lostSet_3 rfl hl (by decide) rfl (fun ls hl => ?_)
  obtain ⟨n_, hw⟩ := hw
  exact L_4 n_ 0 0 M _ _ _ hw hP hS (lv_sub hl [2, 1, 0] rfl)
def B_X1_snowInAll_4 (h : Nat) (Q : Int32 → Mem → Prop) (K4 : Int32 → Int32 → Mem → Prop) (v1 : Int32) (v2 : Int32) (M : Mem) : Prop :=
  (10 ≤ v2 → Q v1 M) ∧ (¬ 10 ≤ v2 → vp_in v2 10 ∧ (∀ x_3, x_3 = v1 + (M (h + 11) v2.toNatClampNeg) → ∀ x_4 : Int32, x_4 = v2 + 1 → K4 x_3 x_4 M))
def l_X1_snowInAll_4 (h : Nat) (Q : Int32 → Mem → Prop) : Nat → Int32 → Int32 → Mem → Prop
  | 0 => fun _ _ _ => False
  | n + 1 => B_X1_snowInAll_4 h Q (l_X1_snowInAll_4 h Q n)
def wp_X1_snowInAll (h : Nat) (M : Mem) (Q : Int32 → Mem → Prop) : Prop :=
  kdT h = 1 ∧ (∃ n, l_X1_snowInAll_4 h Q n 0 0 M)
set_option maxHeartbeats 4000000 in
set_option maxRecDepth 100000 in
theorem so_X1_snowInAll (l : Launch) (G : Gm) (h : Nat) (M : Mem) (Q : Int32 → Mem → Prop) (hw : wp_X1_snowInAll h M Q) : Ct l G yX1_snowInAll cX1_snowInAll 3 (some .int) ({ frames := 0, cells := 0, slots := 0, locals := 0 } : Room) [.ref (G.1 + h)] M (Qi Q) := by
  unfold wp_X1_snowInAll at hw
  obtain ⟨kh, hw⟩ := hw
  refine ct_of (by decide) (Nat.le_of_ble_eq_true rfl) ?_
  intro p e s m below meth c E_ ls H hl hP hS
  obtain ⟨hx, hb, hml, hown, hts, ht, hr, hlocks, hSt, hTb⟩ := E_
  have hl : lv_has ls 3 [(0, .ref (G.1 + h))] := hl
  have L_4 : ∀ (n4 : Nat) (v1 : Int32) (v2 : Int32) (M : Mem) (H : Heap) (locs : List Loc) (ls : Array Slot), l_X1_snowInAll_4 h Q n4 v1 v2 M → va_P G.2.1 clsA (wl G M) H → va_S (inW G) s.heap H locs → lv_has ls 3 [(0, .ref (G.1 + h)), (1, .int v1), (2, .int v2)] → W p l e ({ frames := 0, cells := 0, slots := 0, locals := 0 } : Room) s m ([.ref (G.1 + h)] : List Value).toArray below meth c H locs 0 0 (MQ below (Pq G (Qi Q)) ([.ref (G.1 + h)] : List Value).toArray s 0 0 (inW G)) (F0 m 4 ls []) := by
    intro   n4
    induction n4 with
    | zero => intro v1 v2 M H locs ls  hw hP hS hl; exact False.elim hw
    | succ n4 ih4 =>
      intro v1 v2 M H locs ls  hw hP hS hl
      have hw : B_X1_snowInAll_4 h Q (l_X1_snowInAll_4 h Q n4) v1 v2 M := hw
      unfold B_X1_snowInAll_4 at hw
      refine lv_iload_n hx hb dX1_snowInAll_4 rfl (lv_at hl 2 rfl) ?_
      refine lv_bipush (v := 10) hx hb dX1_snowInAll_5 (by decide) ?_
      refine lv_icmp_ge (tgt := 25) hx hb dX1_snowInAll_7 (by decide) (fun c_1 => ?_) (fun c_1 => ?_)
      · have hw := hw.1 c_1
        refine lv_iload_n hx hb dX1_snowInAll_25 rfl (lv_at hl 1 rfl) ?_
        exact W.iret hx hb hr (mw_end hP hSt hTb hS ⟨_, rfl, hw⟩) hS.2.2 dX1_snowInAll_26
      · have hw := hw.2 c_1
        refine lv_iload_n hx hb dX1_snowInAll_10 rfl (lv_at hl 1 rfl) ?_
        refine lv_aload_n hx hb dX1_snowInAll_11 rfl (lv_at hl 0 rfl) ?_
        refine mw_get (ci := 1) (v := .ref (G.1 + (h + 11))) (C := RX1) (T := TX1) (N := 9) hx hb ht inX1 hown hSt hP kh (by decide) (mk1 kh) rfl 2 (by decide) (ht _ wf_RX1_23) rfl rfl dX1_snowInAll_12 ?_
        refine lv_iload_n hx hb dX1_snowInAll_15 rfl (lv_at hl 2 rfl) ?_
        obtain ⟨c_2, hw⟩ := hw
        refine mw_iald hx hb hSt hP (ks1_2 kh) (by rw [(ln1_2 kh)]; exact c_2) dX1_snowInAll_16 ?_
        refine lv_iadd hx hb dX1_snowInAll_17 ?_
        refine lv_topi (fun x_3 ex_3 => ?_)
        have hw := hw x_3 ex_3
        refine lv_istore_n (lv' := [(1, .int x_3), (0, .ref (G.1 + h)), (2, .int v2)]) hx hb dX1_snowInAll_18 rfl hl (by decide) rfl (fun ls hl => ?_)
        obtain ⟨x_4, ex_4⟩ : ∃ z : Int32, z = v2 + 1 := ⟨_, rfl⟩
        have hw := hw x_4 ex_4
        refine lv_iinc (v := x_4) (lv' := [(2, .int x_4), (1, .int x_3), (0, .ref (G.1 + h))]) hx hb dX1_snowInAll_19 hl (k := 2) rfl (by rw [ex_4]; rfl) (by decide) rfl (fun ls hl => ?_)
        refine lv_goto (tgt := 4) hx hb dX1_snowInAll_22 (by decide) ?_
        exact ih4 x_3 x_4 M _ _ _ hw hP hS (lv_sub hl [2, 1, 0] rfl)
  refine lv_iconst (v := 0) hx hb dX1_snowInAll_0 (by decide) ?_
  refine lv_istore_n (lv' := [(1, .int 0), (0, .ref (G.1 + h))]) hx hb dX1_snowInAll_1 rfl hl (by decide) rfl (fun ls hl => ?_)
  refine lv_iconst (v := 0) hx hb dX1_snowInAll_2 (by decide) ?_
  refine lv_istore_n (lv' := [(2, .int 0), (1, .int 0), (0, .ref (G.1 + h))]) hx hb dX1_snowInAll_3 rfl hl (by decide) rfl (fun ls hl => ?_)
  obtain ⟨n_, hw⟩ := hw
  exact L_4 n_ 0 0 M _ _ _ hw hP hS (lv_sub hl [2, 1, 0] rfl)
