theorem moorW_len (G : Gm) (h : Nat) : (moorW G h).length = 29 := rfl
theorem wldW_len (G : Gm) (h : Nat) : (wldW G h).length = 34 := rfl
theorem rdrW_len (G : Gm) (h : Nat) : (rdrW G h).length = 5 := rfl
theorem vcsW_len (G : Gm) (h : Nat) : (vcsW G h).length = 3 := rfl
theorem split_3 (s a b : va_E) (T : List va_E) : s :: ((T ++ [a]) ++ [b]) = (s :: T) ++ (a :: [b]) := by simp
def rmkW (G : Gm) (h : Nat) : List va_E := (.inr (9, [.ref (G.1 + (h + 1)), .ref (G.1 + (h + 35)), .ref (G.1 + (h + 69)), .ref (G.1 + (h + 98)), .ref (G.1 + (h + 103)), .ref (G.1 + (h + 106)), .ref (G.1 + (h + 107)), .int 0]) :: ((((wldW G (h + 1) ++ wldW G (h + 35)) ++ moorW G (h + 69)) ++ rdrW G (h + 98)) ++ vcsW G (h + 103))) ++ (.inl (G.2.2.1.2.2.2, 4, .inr (.inr (.inr (.inr (fun i => some (G.1 + (h + 106 + 2 + 3 * i))))))) :: acc [.inl (G.2.2.1.1, 6, .inl (fun _ => 0))] (fun i => shtW G (h + (108 + 3 * i))) 4)
set_option maxHeartbeats 4000000 in
set_option maxRecDepth 100000 in
theorem lp_sheets (l : Launch) {p : Program} {e : Env} {s : State} {m : MethodId} {args : Array Value} {below : List Frame} {meth : Method} {c : Code} {G : Gm} {pre : List va_E} {h : Nat} {Q : State → Prop} (E_ : En p s m args meth c G yX9_init.cls cX9_init 2 (Cond.code yX9_init cX9_init 2 none)) (hh : pre.length = h) (A B0 : List va_E) (sf : List Value) (hA : A.length = 106) (hB0 : B0.length = 1) (h0 : A[0]? = some (.inr (9, sf))) (h3 : sf[5]? = some (.ref (G.1 + (h + 106))))
    (kk : ∀ (H : Heap) (locs : List Loc) (ls : Array Slot), gP G (pre ++ (A ++ (.inl (G.2.2.1.2.2.2, 4, .inr (.inr (.inr (.inr (fun i => some (G.1 + (h + 106 + 2 + 3 * i))))))) :: acc B0 (fun i => shtW G (h + (108 + 3 * i))) 4))) H → va_S (upA G) s.heap H locs → lv_has ls 2 [(0, .ref (G.1 + h))] → W p l e ({ frames := 5, cells := 119, slots := 1423, locals := 320 } : Room) s m args below meth c H locs 119 1423 Q (F0 m 101 ls [])) :
    ∀ (k i : Nat) (x : Int32) (H : Heap) (locs : List Loc) (ls : Array Slot), i + k = 4 → x = nI i → gP G (pre ++ (A ++ (.inl (G.2.2.1.2.2.2, 4, .inr (.inr (.inr (.inr (upF (fun k => G.1 + (h + (108 + 3 * k))) i))))) :: acc B0 (fun i => shtW G (h + (108 + 3 * i))) i))) H → va_S (upA G) s.heap H locs → lv_has ls 2 [(1, .int x), (0, .ref (G.1 + h))] → W p l e ({ frames := 5, cells := 119, slots := 1423, locals := 320 } : Room) s m args below meth c H locs (107 + 3 * i) (1247 + 44 * i) Q (F0 m 77 ls []) := by
  obtain ⟨hx, hb, hml, hown, hts, ht, hr, hlocks, hSt, hin⟩ := id E_
  intro k
  induction k with
  | zero =>
    intro i x H locs ls hk ex hP hS hl
    have hi : i = 4 := hk
    subst hi
    refine lv_iload_n hx hb dX9_init_77 rfl (lv_at hl 0 rfl) ?_
    refine lv_iconst (v := 4) hx hb dX9_init_78 (by decide) ?_
    refine lv_icmp_ge (tgt := 101) hx hb dX9_init_79 (by decide) (fun _ => ?_) (fun c_ => absurd (by rw [ex]; decide) c_)
    have hP := hP.refs (xs := A ++ (.inl (G.2.2.1.2.2.2, 4, .inr (.inr (.inr (.inr (upF (fun k => G.1 + (h + (108 + 3 * k))) 4))))) :: acc B0 (fun i => shtW G (h + (108 + 3 * i))) 4)) 106 (fun i => some (G.1 + (h + 106 + 2 + 3 * i))) (mid_at hA) (upF_at (g := (fun k => G.1 + (h + (108 + 3 * k)))) (n := 4) (fun i => by show _ = _; omega))
    rw [mid_set hA] at hP
    exact kk _ _ _ hP hS (lv_sub hl [1] rfl)
  | succ k ih =>
    intro i x H locs ls hk ex hP hS hl
    refine lv_iload_n hx hb dX9_init_77 rfl (lv_at hl 0 rfl) ?_
    refine lv_iconst (v := 4) hx hb dX9_init_78 (by decide) ?_
    refine lv_icmp_ge (tgt := 101) hx hb dX9_init_79 (by decide) (fun c_ => absurd c_ (by rw [ex]; exact nI_ge (a := i) (b := 4) (by omega) (by decide))) (fun _ => ?_)
    have hBl := acc_len (Z := (fun i => shtW G (h + (108 + 3 * i)))) (st := 3) hB0 (fun _ => rfl) i
    have hlen : (A ++ (.inl (G.2.2.1.2.2.2, 4, .inr (.inr (.inr (.inr (upF (fun k => G.1 + (h + (108 + 3 * k))) i))))) :: acc B0 (fun i => shtW G (h + (108 + 3 * i))) i)).length = 108 + 3 * i := by rw [List.length_append, List.length_cons, hA, hBl]; omega
    refine lv_aload_n hx hb dX9_init_82 rfl (lv_at hl 1 rfl) ?_
    refine nw_get (xs := A ++ (.inl (G.2.2.1.2.2.2, 4, .inr (.inr (.inr (.inr (upF (fun k => G.1 + (h + (108 + 3 * k))) i))))) :: acc B0 (fun i => shtW G (h + (108 + 3 * i))) i)) (ci := 9) (v := .ref (G.1 + (h + 106))) (C := RX9) (T := TX9) (N := 8) hx hb ht inX9 hown hSt hh hP 0 (low_at h0) rfl 5 (by decide) (ht _ wf_RX9_42) h3 dX9_init_83 ?_
    refine lv_iload_n hx hb dX9_init_86 rfl (lv_at hl 0 rfl) ?_
    refine nw_new (xs := A ++ (.inl (G.2.2.1.2.2.2, 4, .inr (.inr (.inr (.inr (upF (fun k => G.1 + (h + (108 + 3 * k))) i))))) :: acc B0 (fun i => shtW G (h + (108 + 3 * i))) i)) (ci := 6) (fs := [.null, .int 0]) (C := RX6) (T := TX6) (N := 2) hx hb ht inX6 tyX6 tyX6_ok hown (ht _ wl_RX9_40) (ht _ wq_RX6) (ht _ wn_RX6) hSt hh hP hS rfl (fun j hj => by rcases (show j = 0 ∨ j = 1 by omega) with rfl | rfl <;> rfl) (108 + 3 * i) hlen (by show 107 + 3 * i + 1 ≤ 119; omega) (by show 1247 + 44 * i + 2 ≤ 1423; omega) dX9_init_87 (fun H hP hS => ?_)
    refine lv_dup hx hb dX9_init_90 rfl ?_
    refine nw_IN (host := "RaddleMarks") (pre := pre) (xs := A ++ (.inl (G.2.2.1.2.2.2, 4, .inr (.inr (.inr (.inr (upF (fun k => G.1 + (h + (108 + 3 * k))) i))))) :: acc B0 (fun i => shtW G (h + (108 + 3 * i))) i)) (As := []) (rest := [.ref (G.1 + (h + (108 + 3 * i))), .int x, .ref (G.1 + (h + 106))]) (n := 0) (mc := 2) (ms := 42) ⟨hx, hb, hml, hown, hts⟩ (cn_X6 l G (pre ++ (A ++ (.inl (G.2.2.1.2.2.2, 4, .inr (.inr (.inr (.inr (upF (fun k => G.1 + (h + (108 + 3 * k))) i))))) :: acc B0 (fun i => shtW G (h + (108 + 3 * i))) i))) (h + (108 + 3 * i)) (by rw [List.length_append, hh, hlen])) (by decide) wi_yX6_init wn_RX6 wc_yX6_init rfl (by decide) ⟨(Nat.le_of_ble_eq_true rfl), (Nat.le_of_ble_eq_true rfl)⟩ ⟨rfl, rfl⟩ hSt hP hS rfl hl.1 rfl (Nat.le_of_ble_eq_true rfl) dX9_init_91 ⟨(by show 107 + 3 * i + 1 + 2 ≤ 119; omega), (by show 1247 + 44 * i + 2 + 42 ≤ 1423; omega)⟩ (fun H locs hP hS => ?_)
    rw [List.append_assoc A, List.cons_append] at hP
    have hq : (A ++ (.inl (G.2.2.1.2.2.2, 4, .inr (.inr (.inr (.inr (upF (fun k => G.1 + (h + (108 + 3 * k))) i))))) :: (acc B0 (fun i => shtW G (h + (108 + 3 * i))) i ++ shtW G (h + (108 + 3 * i)))))[108 + 3 * i]? = some (.inr (6, [.ref (G.1 + ((h + (108 + 3 * i)) + 1)), .int 0])) := last_at (by rw [hA, hBl]; omega)
    refine nw_aast (xs := A ++ (.inl (G.2.2.1.2.2.2, 4, .inr (.inr (.inr (.inr (upF (fun k => G.1 + (h + (108 + 3 * k))) i))))) :: (acc B0 (fun i => shtW G (h + (108 + 3 * i))) i ++ shtW G (h + (108 + 3 * i))))) hx hb hSt hh hP hS 106 3 (108 + 3 * i) 6 (mid_at hA) rfl hq rfl (by rw [ex]; exact vp_in_nI (by omega) (by decide)) i (by rw [ex]; exact nI_clamp (by omega)) dX9_init_94 (fun H locs hP hS => ?_)
    rw [mid_set hA] at hP
    have hP : gP G (pre ++ (A ++ (.inl (G.2.2.1.2.2.2, 4, .inr (.inr (.inr (.inr (upF (fun k => G.1 + (h + (108 + 3 * k))) (i + 1)))))) :: acc B0 (fun i => shtW G (h + (108 + 3 * i))) (i + 1)))) H := by rw [← upF_up]; exact hP
    refine lv_iinc (v := nI (i + 1)) (lv' := [(1, .int (nI (i + 1))), (0, .ref (G.1 + h))]) hx hb dX9_init_95 hl (k := 0) rfl (by rw [ex, nI_succ]; rfl) (by decide) rfl (fun ls hl => ?_)
    refine lv_goto (tgt := 77) hx hb dX9_init_98 (by decide) ?_
    refine W.widen (k := 107 + 3 * (i + 1)) (n := 1247 + 44 * (i + 1)) (by omega) (by omega) ?_
    exact ih (i + 1) _ _ _ _ (by omega) rfl hP hS hl
set_option maxHeartbeats 4000000 in
set_option maxRecDepth 100000 in
theorem cn_X9 (l : Launch) (G : Gm) (pre : List va_E) (h : Nat) (hh : pre.length = h) : Cn l G yX9_init cX9_init 2 ({ frames := 5, cells := 119, slots := 1423, locals := 320 } : Room) [.ref (G.1 + h)] (pre ++ [.inr (9, [.null, .null, .null, .null, .null, .null, .null, .int 0])]) (pre ++ rmkW G h) 119 1423 := by
  refine cn_of (by decide) rfl (Nat.le_of_ble_eq_true rfl) ?_
  intro p e s m below meth c E_ ls H hl hP hS
  obtain ⟨hx, hb, hml, hown, hts, ht, hr, hlocks, hSt, hin⟩ := id E_
  have hl : lv_has ls 2 [(0, .ref (G.1 + h))] := hl
  refine lv_aload_n hx hb dX9_init_0 rfl (lv_at hl 0 rfl) ?_
  refine W.objInit hx hb hown (ht _ wm_RX9_1) (ht _ wi_objectInit) (ht _ wc_objectInit) rfl (by rw [hml]; exact hl.1) rfl dX9_init_1 (Nat.le_of_ble_eq_true rfl) (Nat.le_of_ble_eq_true rfl) ?_
  refine W.eq (g2 := F0 m 4 ls []) rfl ?_
  refine lv_aload_n hx hb dX9_init_4 rfl (lv_at hl 0 rfl) ?_
  refine nw_new (xs := [.inr (9, [.null, .null, .null, .null, .null, .null, .null, .int 0])]) (ci := 8) (fs := [.null, .null, .null, .int 0]) (C := RX8) (T := TX8) (N := 4) hx hb ht inX8 tyX8 tyX8_ok hown (ht _ wl_RX9_7) (ht _ wq_RX8) (ht _ wn_RX8) hSt hh hP hS rfl (fun j hj => by rcases (show j = 0 ∨ j = 1 ∨ j = 2 ∨ j = 3 by omega) with rfl | rfl | rfl | rfl <;> rfl) 1 rfl (Nat.le_of_ble_eq_true rfl) (Nat.le_of_ble_eq_true rfl) dX9_init_5 (fun H hP hS => ?_)
  refine W.widen (k := 1) (n := 4) (by omega) (by omega) ?_
  refine lv_dup hx hb dX9_init_8 rfl ?_
  refine nw_IN (host := "RaddleMarks") (pre := pre) (xs := [.inr (9, [.null, .null, .null, .null, .null, .null, .null, .int 0])]) (As := []) (rest := [.ref (G.1 + (h + 1)), .ref (G.1 + h)]) (n := 0) (mc := 33) (ms := 383) ⟨hx, hb, hml, hown, hts⟩ (cn_X8 l G (pre ++ [.inr (9, [.null, .null, .null, .null, .null, .null, .null, .int 0])]) (h + 1) (by rw [List.length_append, hh]; rfl)) (by decide) wi_yX8_init wn_RX8 wc_yX8_init rfl (by decide) ⟨(Nat.le_of_ble_eq_true rfl), (Nat.le_of_ble_eq_true rfl)⟩ ⟨rfl, rfl⟩ hSt hP hS rfl hl.1 rfl (Nat.le_of_ble_eq_true rfl) dX9_init_9 ⟨(Nat.le_of_ble_eq_true rfl), (Nat.le_of_ble_eq_true rfl)⟩ (fun H locs hP hS => ?_)
  obtain ⟨S1, eS1⟩ : ∃ z, z = wldW G (h + 1) := ⟨_, rfl⟩
  have lS1 : S1.length = 34 := by rw [eS1]; exact wldW_len _ _
  rw [← eS1] at hP
  have hP : gP G (pre ++ (.inr (9, [.null, .null, .null, .null, .null, .null, .null, .int 0]) :: S1)) H := hP
  refine W.widen (k := 34) (n := 387) (by omega) (by omega) ?_
  refine nw_putF (xs := (.inr (9, [.null, .null, .null, .null, .null, .null, .null, .int 0]) :: S1)) (ci := 9) (v := .ref (G.1 + (h + 1))) (ty := .object "RaddleMarks$World") (C := RX9) (T := TX9) (N := 8) hx hb ht inX9 tyX9 tyX9_ok nmX9 hown hSt hh hP hS 0 rfl rfl 0 (by decide) (ht _ wf_RX9_10) rfl hin rfl (by decide +kernel) rfl rfl (Nat.le_of_ble_eq_true rfl) dX9_init_12 (fun H locs hP hS => ?_)
  have hP : gP G (pre ++ (.inr (9, [.ref (G.1 + (h + 1)), .null, .null, .null, .null, .null, .null, .int 0]) :: S1)) H := hP
  refine lv_aload_n hx hb dX9_init_15 rfl (lv_at hl 0 rfl) ?_
  refine nw_new (xs := (.inr (9, [.ref (G.1 + (h + 1)), .null, .null, .null, .null, .null, .null, .int 0]) :: S1)) (ci := 8) (fs := [.null, .null, .null, .int 0]) (C := RX8) (T := TX8) (N := 4) hx hb ht inX8 tyX8 tyX8_ok hown (ht _ wl_RX9_7) (ht _ wq_RX8) (ht _ wn_RX8) hSt hh hP hS rfl (fun j hj => by rcases (show j = 0 ∨ j = 1 ∨ j = 2 ∨ j = 3 by omega) with rfl | rfl | rfl | rfl <;> rfl) 35 (by simp [lS1]) (Nat.le_of_ble_eq_true rfl) (Nat.le_of_ble_eq_true rfl) dX9_init_16 (fun H hP hS => ?_)
  refine W.widen (k := 35) (n := 391) (by omega) (by omega) ?_
  refine lv_dup hx hb dX9_init_19 rfl ?_
  refine nw_IN (host := "RaddleMarks") (pre := pre) (xs := (.inr (9, [.ref (G.1 + (h + 1)), .null, .null, .null, .null, .null, .null, .int 0]) :: S1)) (As := []) (rest := [.ref (G.1 + (h + 35)), .ref (G.1 + h)]) (n := 0) (mc := 33) (ms := 383) ⟨hx, hb, hml, hown, hts⟩ (cn_X8 l G (pre ++ (.inr (9, [.ref (G.1 + (h + 1)), .null, .null, .null, .null, .null, .null, .int 0]) :: S1)) (h + 35) (by rw [List.length_append, hh]; simp [lS1])) (by decide) wi_yX8_init wn_RX8 wc_yX8_init rfl (by decide) ⟨(Nat.le_of_ble_eq_true rfl), (Nat.le_of_ble_eq_true rfl)⟩ ⟨rfl, rfl⟩ hSt hP hS rfl hl.1 rfl (Nat.le_of_ble_eq_true rfl) dX9_init_20 ⟨(Nat.le_of_ble_eq_true rfl), (Nat.le_of_ble_eq_true rfl)⟩ (fun H locs hP hS => ?_)
  obtain ⟨S2, eS2⟩ : ∃ z, z = wldW G (h + 35) := ⟨_, rfl⟩
  have lS2 : S2.length = 34 := by rw [eS2]; exact wldW_len _ _
  rw [← eS2] at hP
  have hP : gP G (pre ++ (.inr (9, [.ref (G.1 + (h + 1)), .null, .null, .null, .null, .null, .null, .int 0]) :: (S1 ++ S2))) H := hP
  refine W.widen (k := 68) (n := 774) (by omega) (by omega) ?_
  refine nw_putF (xs := (.inr (9, [.ref (G.1 + (h + 1)), .null, .null, .null, .null, .null, .null, .int 0]) :: (S1 ++ S2))) (ci := 9) (v := .ref (G.1 + (h + 35))) (ty := .object "RaddleMarks$World") (C := RX9) (T := TX9) (N := 8) hx hb ht inX9 tyX9 tyX9_ok nmX9 hown hSt hh hP hS 0 rfl rfl 1 (by decide) (ht _ wf_RX9_16) rfl hin rfl (by decide +kernel) rfl rfl (Nat.le_of_ble_eq_true rfl) dX9_init_23 (fun H locs hP hS => ?_)
  have hP : gP G (pre ++ (.inr (9, [.ref (G.1 + (h + 1)), .ref (G.1 + (h + 35)), .null, .null, .null, .null, .null, .int 0]) :: (S1 ++ S2))) H := hP
  refine lv_aload_n hx hb dX9_init_26 rfl (lv_at hl 0 rfl) ?_
  refine nw_new (xs := (.inr (9, [.ref (G.1 + (h + 1)), .ref (G.1 + (h + 35)), .null, .null, .null, .null, .null, .int 0]) :: (S1 ++ S2))) (ci := 1) (fs := [.null, .null, .null, .null, .null, .null, .int 0, .int 0, .int 0]) (C := RX1) (T := TX1) (N := 9) hx hb ht inX1 tyX1 tyX1_ok hown (ht _ wl_RX9_19) (ht _ wq_RX1) (ht _ wn_RX1) hSt hh hP hS rfl (fun j hj => by rcases (show j = 0 ∨ j = 1 ∨ j = 2 ∨ j = 3 ∨ j = 4 ∨ j = 5 ∨ j = 6 ∨ j = 7 ∨ j = 8 by omega) with rfl | rfl | rfl | rfl | rfl | rfl | rfl | rfl | rfl <;> rfl) 69 (by simp [lS1, lS2]) (Nat.le_of_ble_eq_true rfl) (Nat.le_of_ble_eq_true rfl) dX9_init_27 (fun H hP hS => ?_)
  refine W.widen (k := 69) (n := 783) (by omega) (by omega) ?_
  refine lv_dup hx hb dX9_init_30 rfl ?_
  refine nw_I (pre := pre) (xs := (.inr (9, [.ref (G.1 + (h + 1)), .ref (G.1 + (h + 35)), .null, .null, .null, .null, .null, .int 0]) :: (S1 ++ S2))) (As := []) (rest := [.ref (G.1 + (h + 69)), .ref (G.1 + h)]) (n := 0) (mc := 28) (ms := 300) ⟨hx, hb, hml, hown, hts⟩ (cn_X1 l G (pre ++ (.inr (9, [.ref (G.1 + (h + 1)), .ref (G.1 + (h + 35)), .null, .null, .null, .null, .null, .int 0]) :: (S1 ++ S2))) (h + 69) (by rw [List.length_append, hh]; simp [lS1, lS2])) wm_RX9_21 wi_yX1_init wn_RX1 wc_yX1_init rfl (by decide) ⟨(Nat.le_of_ble_eq_true rfl), (Nat.le_of_ble_eq_true rfl)⟩ ⟨rfl, rfl⟩ hSt hP hS rfl hl.1 rfl (Nat.le_of_ble_eq_true rfl) dX9_init_31 ⟨(Nat.le_of_ble_eq_true rfl), (Nat.le_of_ble_eq_true rfl)⟩ (fun H locs hP hS => ?_)
  obtain ⟨S3, eS3⟩ : ∃ z, z = moorW G (h + 69) := ⟨_, rfl⟩
  have lS3 : S3.length = 29 := by rw [eS3]; exact moorW_len _ _
  rw [← eS3] at hP
  have hP : gP G (pre ++ (.inr (9, [.ref (G.1 + (h + 1)), .ref (G.1 + (h + 35)), .null, .null, .null, .null, .null, .int 0]) :: ((S1 ++ S2) ++ S3))) H := hP
  refine W.widen (k := 97) (n := 1083) (by omega) (by omega) ?_
  refine nw_putF (xs := (.inr (9, [.ref (G.1 + (h + 1)), .ref (G.1 + (h + 35)), .null, .null, .null, .null, .null, .int 0]) :: ((S1 ++ S2) ++ S3))) (ci := 9) (v := .ref (G.1 + (h + 69))) (ty := .object "RaddleMarks$Moor") (C := RX9) (T := TX9) (N := 8) hx hb ht inX9 tyX9 tyX9_ok nmX9 hown hSt hh hP hS 0 rfl rfl 2 (by decide) (ht _ wf_RX9_22) rfl hin rfl (by decide +kernel) rfl rfl (Nat.le_of_ble_eq_true rfl) dX9_init_34 (fun H locs hP hS => ?_)
  have hP : gP G (pre ++ (.inr (9, [.ref (G.1 + (h + 1)), .ref (G.1 + (h + 35)), .ref (G.1 + (h + 69)), .null, .null, .null, .null, .int 0]) :: ((S1 ++ S2) ++ S3))) H := hP
  refine lv_aload_n hx hb dX9_init_37 rfl (lv_at hl 0 rfl) ?_
  refine nw_new (xs := (.inr (9, [.ref (G.1 + (h + 1)), .ref (G.1 + (h + 35)), .ref (G.1 + (h + 69)), .null, .null, .null, .null, .int 0]) :: ((S1 ++ S2) ++ S3))) (ci := 2) (fs := [.null, .null, .int 0, .int 0]) (C := RX2) (T := TX2) (N := 4) hx hb ht inX2 tyX2 tyX2_ok hown (ht _ wl_RX9_26) (ht _ wq_RX2) (ht _ wn_RX2) hSt hh hP hS rfl (fun j hj => by rcases (show j = 0 ∨ j = 1 ∨ j = 2 ∨ j = 3 by omega) with rfl | rfl | rfl | rfl <;> rfl) 98 (by simp [lS1, lS2, lS3]) (Nat.le_of_ble_eq_true rfl) (Nat.le_of_ble_eq_true rfl) dX9_init_38 (fun H hP hS => ?_)
  refine W.widen (k := 98) (n := 1087) (by omega) (by omega) ?_
  refine lv_dup hx hb dX9_init_41 rfl ?_
  refine nw_IN (host := "RaddleMarks") (pre := pre) (xs := (.inr (9, [.ref (G.1 + (h + 1)), .ref (G.1 + (h + 35)), .ref (G.1 + (h + 69)), .null, .null, .null, .null, .int 0]) :: ((S1 ++ S2) ++ S3))) (As := []) (rest := [.ref (G.1 + (h + 98)), .ref (G.1 + h)]) (n := 0) (mc := 4) (ms := 104) ⟨hx, hb, hml, hown, hts⟩ (cn_X2 l G (pre ++ (.inr (9, [.ref (G.1 + (h + 1)), .ref (G.1 + (h + 35)), .ref (G.1 + (h + 69)), .null, .null, .null, .null, .int 0]) :: ((S1 ++ S2) ++ S3))) (h + 98) (by rw [List.length_append, hh]; simp [lS1, lS2, lS3])) (by decide) wi_yX2_init wn_RX2 wc_yX2_init rfl (by decide) ⟨(Nat.le_of_ble_eq_true rfl), (Nat.le_of_ble_eq_true rfl)⟩ ⟨rfl, rfl⟩ hSt hP hS rfl hl.1 rfl (Nat.le_of_ble_eq_true rfl) dX9_init_42 ⟨(Nat.le_of_ble_eq_true rfl), (Nat.le_of_ble_eq_true rfl)⟩ (fun H locs hP hS => ?_)
  obtain ⟨S4, eS4⟩ : ∃ z, z = rdrW G (h + 98) := ⟨_, rfl⟩
  have lS4 : S4.length = 5 := by rw [eS4]; exact rdrW_len _ _
  rw [← eS4] at hP
  have hP : gP G (pre ++ (.inr (9, [.ref (G.1 + (h + 1)), .ref (G.1 + (h + 35)), .ref (G.1 + (h + 69)), .null, .null, .null, .null, .int 0]) :: (((S1 ++ S2) ++ S3) ++ S4))) H := hP
  refine W.widen (k := 102) (n := 1191) (by omega) (by omega) ?_
  refine nw_putF (xs := (.inr (9, [.ref (G.1 + (h + 1)), .ref (G.1 + (h + 35)), .ref (G.1 + (h + 69)), .null, .null, .null, .null, .int 0]) :: (((S1 ++ S2) ++ S3) ++ S4))) (ci := 9) (v := .ref (G.1 + (h + 98))) (ty := .object "RaddleMarks$Reader") (C := RX9) (T := TX9) (N := 8) hx hb ht inX9 tyX9 tyX9_ok nmX9 hown hSt hh hP hS 0 rfl rfl 3 (by decide) (ht _ wf_RX9_29) rfl hin rfl (by decide +kernel) rfl rfl (Nat.le_of_ble_eq_true rfl) dX9_init_45 (fun H locs hP hS => ?_)
  have hP : gP G (pre ++ (.inr (9, [.ref (G.1 + (h + 1)), .ref (G.1 + (h + 35)), .ref (G.1 + (h + 69)), .ref (G.1 + (h + 98)), .null, .null, .null, .int 0]) :: (((S1 ++ S2) ++ S3) ++ S4))) H := hP
  refine lv_aload_n hx hb dX9_init_48 rfl (lv_at hl 0 rfl) ?_
  refine nw_new (xs := (.inr (9, [.ref (G.1 + (h + 1)), .ref (G.1 + (h + 35)), .ref (G.1 + (h + 69)), .ref (G.1 + (h + 98)), .null, .null, .null, .int 0]) :: (((S1 ++ S2) ++ S3) ++ S4))) (ci := 7) (fs := [.null, .int 0, .int 0, .int 0]) (C := RX7) (T := TX7) (N := 4) hx hb ht inX7 tyX7 tyX7_ok hown (ht _ wl_RX9_33) (ht _ wq_RX7) (ht _ wn_RX7) hSt hh hP hS rfl (fun j hj => by rcases (show j = 0 ∨ j = 1 ∨ j = 2 ∨ j = 3 by omega) with rfl | rfl | rfl | rfl <;> rfl) 103 (by simp [lS1, lS2, lS3, lS4]) (Nat.le_of_ble_eq_true rfl) (Nat.le_of_ble_eq_true rfl) dX9_init_49 (fun H hP hS => ?_)
  refine W.widen (k := 103) (n := 1195) (by omega) (by omega) ?_
  refine lv_dup hx hb dX9_init_52 rfl ?_
  refine nw_IN (host := "RaddleMarks") (pre := pre) (xs := (.inr (9, [.ref (G.1 + (h + 1)), .ref (G.1 + (h + 35)), .ref (G.1 + (h + 69)), .ref (G.1 + (h + 98)), .null, .null, .null, .int 0]) :: (((S1 ++ S2) ++ S3) ++ S4))) (As := []) (rest := [.ref (G.1 + (h + 103)), .ref (G.1 + h)]) (n := 0) (mc := 2) (ms := 42) ⟨hx, hb, hml, hown, hts⟩ (cn_X7 l G (pre ++ (.inr (9, [.ref (G.1 + (h + 1)), .ref (G.1 + (h + 35)), .ref (G.1 + (h + 69)), .ref (G.1 + (h + 98)), .null, .null, .null, .int 0]) :: (((S1 ++ S2) ++ S3) ++ S4))) (h + 103) (by rw [List.length_append, hh]; simp [lS1, lS2, lS3, lS4])) (by decide) wi_yX7_init wn_RX7 wc_yX7_init rfl (by decide) ⟨(Nat.le_of_ble_eq_true rfl), (Nat.le_of_ble_eq_true rfl)⟩ ⟨rfl, rfl⟩ hSt hP hS rfl hl.1 rfl (Nat.le_of_ble_eq_true rfl) dX9_init_53 ⟨(Nat.le_of_ble_eq_true rfl), (Nat.le_of_ble_eq_true rfl)⟩ (fun H locs hP hS => ?_)
  obtain ⟨S5, eS5⟩ : ∃ z, z = vcsW G (h + 103) := ⟨_, rfl⟩
  have lS5 : S5.length = 3 := by rw [eS5]; exact vcsW_len _ _
  rw [← eS5] at hP
  have hP : gP G (pre ++ (.inr (9, [.ref (G.1 + (h + 1)), .ref (G.1 + (h + 35)), .ref (G.1 + (h + 69)), .ref (G.1 + (h + 98)), .null, .null, .null, .int 0]) :: ((((S1 ++ S2) ++ S3) ++ S4) ++ S5))) H := hP
  refine W.widen (k := 105) (n := 1237) (by omega) (by omega) ?_
  refine nw_putF (xs := (.inr (9, [.ref (G.1 + (h + 1)), .ref (G.1 + (h + 35)), .ref (G.1 + (h + 69)), .ref (G.1 + (h + 98)), .null, .null, .null, .int 0]) :: ((((S1 ++ S2) ++ S3) ++ S4) ++ S5))) (ci := 9) (v := .ref (G.1 + (h + 103))) (ty := .object "RaddleMarks$Voices") (C := RX9) (T := TX9) (N := 8) hx hb ht inX9 tyX9 tyX9_ok nmX9 hown hSt hh hP hS 0 rfl rfl 4 (by decide) (ht _ wf_RX9_36) rfl hin rfl (by decide +kernel) rfl rfl (Nat.le_of_ble_eq_true rfl) dX9_init_56 (fun H locs hP hS => ?_)
  have hP : gP G (pre ++ (.inr (9, [.ref (G.1 + (h + 1)), .ref (G.1 + (h + 35)), .ref (G.1 + (h + 69)), .ref (G.1 + (h + 98)), .ref (G.1 + (h + 103)), .null, .null, .int 0]) :: ((((S1 ++ S2) ++ S3) ++ S4) ++ S5))) H := hP
  refine lv_aload_n hx hb dX9_init_59 rfl (lv_at hl 0 rfl) ?_
  refine lv_iconst (v := 4) hx hb dX9_init_60 (by decide) ?_
  refine nw_newq (xs := (.inr (9, [.ref (G.1 + (h + 1)), .ref (G.1 + (h + 35)), .ref (G.1 + (h + 69)), .ref (G.1 + (h + 98)), .ref (G.1 + (h + 103)), .null, .null, .int 0]) :: ((((S1 ++ S2) ++ S3) ++ S4) ++ S5))) (cA := G.2.2.1.2.2.2) (N := 4) hx hb hown (ht _ wl_RX9_40) hSt.2.2.2 hSt 3 rfl hh hP hS (by decide) 106 (by simp [lS1, lS2, lS3, lS4, lS5]) (Nat.le_of_ble_eq_true rfl) (Nat.le_of_ble_eq_true rfl) dX9_init_61 (fun H hP hS => ?_)
  have hP : gP G (pre ++ (.inr (9, [.ref (G.1 + (h + 1)), .ref (G.1 + (h + 35)), .ref (G.1 + (h + 69)), .ref (G.1 + (h + 98)), .ref (G.1 + (h + 103)), .null, .null, .int 0]) :: (((((S1 ++ S2) ++ S3) ++ S4) ++ S5) ++ [.inl (G.2.2.1.2.2.2, 4, .inr (.inr (.inr (.inr (fun _ => none)))))]))) H := hP
  refine W.widen (k := 106) (n := 1241) (by omega) (by omega) ?_
  refine nw_putF (xs := (.inr (9, [.ref (G.1 + (h + 1)), .ref (G.1 + (h + 35)), .ref (G.1 + (h + 69)), .ref (G.1 + (h + 98)), .ref (G.1 + (h + 103)), .null, .null, .int 0]) :: (((((S1 ++ S2) ++ S3) ++ S4) ++ S5) ++ [.inl (G.2.2.1.2.2.2, 4, .inr (.inr (.inr (.inr (fun _ => none)))))]))) (ci := 9) (v := .ref (G.1 + (h + 106))) (ty := .array (.object "RaddleMarks$Sheet")) (C := RX9) (T := TX9) (N := 8) hx hb ht inX9 tyX9 tyX9_ok nmX9 hown hSt hh hP hS 0 rfl rfl 5 (by decide) (ht _ wf_RX9_42) rfl hin rfl (by decide +kernel) rfl rfl (Nat.le_of_ble_eq_true rfl) dX9_init_64 (fun H locs hP hS => ?_)
  have hP : gP G (pre ++ (.inr (9, [.ref (G.1 + (h + 1)), .ref (G.1 + (h + 35)), .ref (G.1 + (h + 69)), .ref (G.1 + (h + 98)), .ref (G.1 + (h + 103)), .ref (G.1 + (h + 106)), .null, .int 0]) :: (((((S1 ++ S2) ++ S3) ++ S4) ++ S5) ++ [.inl (G.2.2.1.2.2.2, 4, .inr (.inr (.inr (.inr (fun _ => none)))))]))) H := hP
  refine lv_aload_n hx hb dX9_init_67 rfl (lv_at hl 0 rfl) ?_
  refine lv_bipush (v := 6) hx hb dX9_init_68 (by decide) ?_
  refine nw_newa (xs := (.inr (9, [.ref (G.1 + (h + 1)), .ref (G.1 + (h + 35)), .ref (G.1 + (h + 69)), .ref (G.1 + (h + 98)), .ref (G.1 + (h + 103)), .ref (G.1 + (h + 106)), .null, .int 0]) :: (((((S1 ++ S2) ++ S3) ++ S4) ++ S5) ++ [.inl (G.2.2.1.2.2.2, 4, .inr (.inr (.inr (.inr (fun _ => none)))))]))) (N := 6) hx hb ht hSt hh hP hS (by decide) 107 (by simp [lS1, lS2, lS3, lS4, lS5]) (Nat.le_of_ble_eq_true rfl) (Nat.le_of_ble_eq_true rfl) dX9_init_70 (fun H hP hS => ?_)
  have hP : gP G (pre ++ (.inr (9, [.ref (G.1 + (h + 1)), .ref (G.1 + (h + 35)), .ref (G.1 + (h + 69)), .ref (G.1 + (h + 98)), .ref (G.1 + (h + 103)), .ref (G.1 + (h + 106)), .null, .int 0]) :: ((((((S1 ++ S2) ++ S3) ++ S4) ++ S5) ++ [.inl (G.2.2.1.2.2.2, 4, .inr (.inr (.inr (.inr (fun _ => none)))))]) ++ [.inl (G.2.2.1.1, 6, .inl (fun _ => 0))]))) H := hP
  refine W.widen (k := 107) (n := 1247) (by omega) (by omega) ?_
  refine nw_putF (xs := (.inr (9, [.ref (G.1 + (h + 1)), .ref (G.1 + (h + 35)), .ref (G.1 + (h + 69)), .ref (G.1 + (h + 98)), .ref (G.1 + (h + 103)), .ref (G.1 + (h + 106)), .null, .int 0]) :: ((((((S1 ++ S2) ++ S3) ++ S4) ++ S5) ++ [.inl (G.2.2.1.2.2.2, 4, .inr (.inr (.inr (.inr (fun _ => none)))))]) ++ [.inl (G.2.2.1.1, 6, .inl (fun _ => 0))]))) (ci := 9) (v := .ref (G.1 + (h + 107))) (ty := .array .int) (C := RX9) (T := TX9) (N := 8) hx hb ht inX9 tyX9 tyX9_ok nmX9 hown hSt hh hP hS 0 rfl rfl 6 (by decide) (ht _ wf_RX9_46) rfl hin rfl (by decide +kernel) rfl rfl (Nat.le_of_ble_eq_true rfl) dX9_init_72 (fun H locs hP hS => ?_)
  have hP : gP G (pre ++ (.inr (9, [.ref (G.1 + (h + 1)), .ref (G.1 + (h + 35)), .ref (G.1 + (h + 69)), .ref (G.1 + (h + 98)), .ref (G.1 + (h + 103)), .ref (G.1 + (h + 106)), .ref (G.1 + (h + 107)), .int 0]) :: ((((((S1 ++ S2) ++ S3) ++ S4) ++ S5) ++ [.inl (G.2.2.1.2.2.2, 4, .inr (.inr (.inr (.inr (fun _ => none)))))]) ++ [.inl (G.2.2.1.1, 6, .inl (fun _ => 0))]))) H := hP
  refine lv_iconst (v := 0) hx hb dX9_init_75 (by decide) ?_
  refine lv_istore_n (lv' := [(1, .int 0), (0, .ref (G.1 + h))]) hx hb dX9_init_76 rfl hl (by decide) rfl (fun ls hl => ?_)
  rw [split_3] at hP
  have hP : gP G (pre ++ ((.inr (9, [.ref (G.1 + (h + 1)), .ref (G.1 + (h + 35)), .ref (G.1 + (h + 69)), .ref (G.1 + (h + 98)), .ref (G.1 + (h + 103)), .ref (G.1 + (h + 106)), .ref (G.1 + (h + 107)), .int 0]) :: ((((S1 ++ S2) ++ S3) ++ S4) ++ S5)) ++ (.inl (G.2.2.1.2.2.2, 4, .inr (.inr (.inr (.inr (upF (fun k => G.1 + (h + (108 + 3 * k))) 0))))) :: acc [.inl (G.2.2.1.1, 6, .inl (fun _ => 0))] (fun i => shtW G (h + (108 + 3 * i))) 0))) H := by rw [upF_0]; exact hP
  refine lp_sheets l E_ hh (.inr (9, [.ref (G.1 + (h + 1)), .ref (G.1 + (h + 35)), .ref (G.1 + (h + 69)), .ref (G.1 + (h + 98)), .ref (G.1 + (h + 103)), .ref (G.1 + (h + 106)), .ref (G.1 + (h + 107)), .int 0]) :: ((((S1 ++ S2) ++ S3) ++ S4) ++ S5)) [.inl (G.2.2.1.1, 6, .inl (fun _ => 0))] _ (by simp [lS1, lS2, lS3, lS4, lS5]) rfl rfl rfl (fun H locs ls hP hS hl => ?_) 4 0 0 _ _ _ rfl rfl hP hS hl
  subst eS1 eS2 eS3 eS4 eS5
  have hP : gP G (pre ++ rmkW G h) H := hP
  exact W.vret hx hb hr (nw_end hP hSt hS) hS.2.2 dX9_init_101
