theorem bl_X9 : ∀ j, j < 8 → defaultValue (tyX9 j) = vp_V [.null, .null, .null, .null, .null, .null, .null, .int 0] j := by
  intro j hj
  rcases (show j = 0 ∨ j = 1 ∨ j = 2 ∨ j = 3 ∨ j = 4 ∨ j = 5 ∨ j = 6 ∨ j = 7 by omega) with rfl | rfl | rfl | rfl | rfl | rfl | rfl | rfl <;> rfl
theorem bl_X10 : ∀ j, j < 25 → defaultValue (tyX10 j) = vp_V [.null, .null, .null, .int 0, .int 0, .null, .int 0, .int 0, .int 0, .int 0, .int 0, .int 0, .null, .null, .null, .null, .null, .null, .null, .null, .null, .int 0, .int 0, .int 0, .int 0] j := by
  intro j hj
  rcases (show j = 0 ∨ j = 1 ∨ j = 2 ∨ j = 3 ∨ j = 4 ∨ j = 5 ∨ j = 6 ∨ j = 7 ∨ j = 8 ∨ j = 9 ∨ j = 10 ∨ j = 11 ∨ j = 12 ∨ j = 13 ∨ j = 14 ∨ j = 15 ∨ j = 16 ∨ j = 17 ∨ j = 18 ∨ j = 19 ∨ j = 20 ∨ j = 21 ∨ j = 22 ∨ j = 23 ∨ j = 24 by omega) with rfl | rfl | rfl | rfl | rfl | rfl | rfl | rfl | rfl | rfl | rfl | rfl | rfl | rfl | rfl | rfl | rfl | rfl | rfl | rfl | rfl | rfl | rfl | rfl | rfl <;> rfl
theorem law_ts {s : State} {b : Nat} (ht : ∀ w ∈ lwg, w.before #[Value.ref b] s = true) : ∀ w ∈ ((.initialized R_law : Cond) :: lwg), w.before #[Value.ref b] s = true := fun w h => by
  rcases List.mem_cons.mp h with rfl | q
  · exact ht _ wn_R_law
  · exact ht w q
theorem st_18 {p : Program} {e : Env} {s : State} {m : MethodId} {below : List Frame} {meth : Method} {c : Code} {l : Launch} {G : Gm} {b L : Nat} {xs : Nat → Int32} (hL : L ≤ 3072) (C0 : lw_At p s m meth c b L xs) (hG1 : G.1 = s.heap.size) (hSt : StI G s) (hTb : Tbs G s s.heap) {H : Heap} {locs : List Loc} {ls : Array Slot} (hP : gP G (rmkW G 0 ++ mdlW G 120) H) (hS : va_S (upA G) s.heap H locs) (hl : lv_has ls 4 [(3, .int 0), (2, .ref (G.1 + 120)), (1, .ref (G.1 + 0)), (0, .ref b)]) : W p l e room_1 s m #[Value.ref b] below meth c H locs 134 2545 (lw_Z below #[Value.ref b] s) (F0 m 18 ls []) := by
  have hbl : b < s.heap.size := C0.2.2.2.2.2.2.2.1
  have hin_ : ∀ q : Loc, inW G q.base → s.heap.size ≤ q.base := fun q h => by rw [← hG1]; exact h.1
  have hbA : ¬ inW G b := fun z => by have := z.1; omega
  have hS2 : va_S (inW G) s.heap H [] := ⟨hS.1, fun q h1 _ => hS.2.1 q h1 (fun z => by unfold upA at z; omega), fun _ h => by cases h⟩
  have hP2 := fresh_P hP
  refine va_forget (fun q hq => by rw [← hG1]; exact hS.2.2 q hq) ?_
  exact law_run C0 hSt.1 hTb hin_ hbA (by omega) (by omega) hL L 0 0 0 M0 H [] ls (by omega) nI_0.symm rfl (by omega) INV_0 hP2 hS2 (lv_sub hl [3, 2, 1, 0] rfl)
set_option maxHeartbeats 4000000 in
set_option maxRecDepth 100000 in
theorem st_8 {p : Program} {e : Env} {s : State} {m : MethodId} {below : List Frame} {meth : Method} {c : Code} {l : Launch} {G : Gm} {b L : Nat} {xs : Nat → Int32} (C0 : lw_At p s m meth c b L xs) (hSt : StI G s) {R0 Z0 : List va_E} {Q : State → Prop} (hR : R0.length = 120) (hZ : Z0 = mdlW G 120) {H : Heap} {locs : List Loc} {ls : Array Slot} (hP : gP G ([] ++ R0) H) (hS : va_S (upA G) s.heap H locs) (hl : lv_has ls 4 [(1, .ref (G.1 + 0)), (0, .ref b)])
    (kk : ∀ (H : Heap) (locs : List Loc) (ls : Array Slot), gP G (R0 ++ Z0) H → va_S (upA G) s.heap H locs → lv_has ls 4 [(3, .int 0), (2, .ref (G.1 + 120)), (1, .ref (G.1 + 0)), (0, .ref b)] → W p l e room_1 s m #[Value.ref b] below meth c H locs 134 2545 Q (F0 m 18 ls [])) : W p l e room_1 s m #[Value.ref b] below meth c H locs 120 1431 Q (F0 m 8 ls []) := by
  obtain ⟨hx, hb, hr, hml, hown, hts0, hX, hbl, hlocks, hgv⟩ := C0
  have ht : ∀ w ∈ lwg, w.before #[Value.ref b] s = true := fun w h => hts0 w (List.mem_filter.mp h).1
  have hts := law_ts ht
  have hh : ([] : List va_E).length = 0 := rfl
  have hM : Cn l G yX10_init cX10_init 1 ({ frames := 1, cells := 13, slots := 1089, locals := 64 } : Room) [.ref (G.1 + 120)] (([] ++ R0) ++ [.inr (10, [.null, .null, .null, .int 0, .int 0, .null, .int 0, .int 0, .int 0, .int 0, .int 0, .int 0, .null, .null, .null, .null, .null, .null, .null, .null, .null, .int 0, .int 0, .int 0, .int 0])]) (([] ++ R0) ++ Z0) 13 1089 := by
    rw [List.nil_append, hZ]
    exact cn_X10 l G R0 120 hR
  refine nw_new (pre := []) (xs := R0) (ci := 10) (fs := [.null, .null, .null, .int 0, .int 0, .null, .int 0, .int 0, .int 0, .int 0, .int 0, .int 0, .null, .null, .null, .null, .null, .null, .null, .null, .null, .int 0, .int 0, .int 0, .int 0]) (C := RX10) (T := TX10) (N := 25) hx hb ht inX10 tyX10 tyX10_ok hown (ht _ wl_R_law_10) (ht _ wq_RX10) (ht _ wn_RX10) hSt hh hP hS rfl bl_X10 120 hR (Nat.le_of_ble_eq_true rfl) (Nat.le_of_ble_eq_true rfl) dL_law_8 (fun H hP hS => ?_)
  refine W.widen (k := 121) (n := 1456) (by omega) (by omega) ?_
  refine W.eq (g2 := F0 m 11 ls [.ref (G.1 + 120)]) (by rw [Nat.zero_add]) ?_
  refine lv_dup hx hb dL_law_11 rfl ?_
  refine nw_I (pre := []) (xs := R0) (e0 := .inr (10, [.null, .null, .null, .int 0, .int 0, .null, .int 0, .int 0, .int 0, .int 0, .int 0, .int 0, .null, .null, .null, .null, .null, .null, .null, .null, .null, .int 0, .int 0, .int 0, .int 0])) (zs := Z0) (As := []) (rest := [.ref (G.1 + 120)]) (n := 0) (mc := 13) (ms := 1089) ⟨hx, hb, hml, hown, hts⟩ hM wm_R_law_12 wi_yX10_init wn_RX10 wc_yX10_init rfl (by decide) ⟨(Nat.le_of_ble_eq_true rfl), (Nat.le_of_ble_eq_true rfl)⟩ ⟨rfl, rfl⟩ hSt hP hS rfl hl.1 rfl (Nat.le_of_ble_eq_true rfl) dL_law_12 ⟨(Nat.le_of_ble_eq_true rfl), (Nat.le_of_ble_eq_true rfl)⟩ (fun H locs hP hS => ?_)
  rw [List.nil_append] at hP
  refine W.widen (k := 134) (n := 2545) (by omega) (by omega) ?_
  refine lv_astore_n (lv' := [(2, .ref (G.1 + 120)), (1, .ref (G.1 + 0)), (0, .ref b)]) hx hb dL_law_15 rfl hl (by decide) rfl (fun ls hl => ?_)
  refine lv_iconst (v := 0) hx hb dL_law_16 (by decide) ?_
  refine lv_istore_n (lv' := [(3, .int 0), (2, .ref (G.1 + 120)), (1, .ref (G.1 + 0)), (0, .ref b)]) hx hb dL_law_17 rfl hl (by decide) rfl (fun ls hl => ?_)
  exact kk _ _ _ hP hS hl
set_option maxHeartbeats 4000000 in
set_option maxRecDepth 100000 in
theorem st_0 {p : Program} {e : Env} {s : State} {m : MethodId} {below : List Frame} {meth : Method} {c : Code} {l : Launch} {G : Gm} {b L : Nat} {xs : Nat → Int32} (C0 : lw_At p s m meth c b L xs) (hG1 : G.1 = s.heap.size) (hSt : StI G s) {R0 : List va_E} {Q : State → Prop} (hR : R0 = rmkW G 0)
    (kk : ∀ (H : Heap) (locs : List Loc) (ls : Array Slot), gP G ([] ++ R0) H → va_S (upA G) s.heap H locs → lv_has ls 4 [(1, .ref (G.1 + 0)), (0, .ref b)] → W p l e room_1 s m #[Value.ref b] below meth c H locs 120 1431 Q (F0 m 8 ls [])) : W p l e room_1 s m #[Value.ref b] below meth c s.heap [] 0 0 Q (entryFrame m ([Value.ref b] : List Value).toArray 4) := by
  obtain ⟨hx, hb, hr, hml, hown, hts0, hX, hbl, hlocks, hgv⟩ := C0
  have ht : ∀ w ∈ lwg, w.before #[Value.ref b] s = true := fun w h => hts0 w (List.mem_filter.mp h).1
  have hts := law_ts ht
  have hP : gP G ([] ++ []) s.heap := ⟨fun k e hk => by simp at hk, hG1.symm⟩
  have hS : va_S (upA G) s.heap s.heap [] := va_S.rf
  have hh : ([] : List va_E).length = 0 := rfl
  have hl := lv_entry ([.ref b]) (n := 4) (Nat.le_of_ble_eq_true rfl)
  rw [lg_entry_eq]
  generalize (lg_sl ([.ref b]) ++ List.replicate (4 - (lg_sl ([.ref b])).length) Slot.unset).toArray = ls at hl ⊢
  have hl : lv_has ls 4 [(0, .ref b)] := hl
  have hM : Cn l G yX9_init cX9_init 2 ({ frames := 5, cells := 119, slots := 1423, locals := 320 } : Room) [.ref (G.1 + 0)] (([] ++ []) ++ [.inr (9, [.null, .null, .null, .null, .null, .null, .null, .int 0])]) (([] ++ []) ++ R0) 119 1423 := by
    rw [List.nil_append, hR]
    exact cn_X9 l G [] 0 rfl
  refine nw_new (pre := []) (xs := []) (ci := 9) (fs := [.null, .null, .null, .null, .null, .null, .null, .int 0]) (C := RX9) (T := TX9) (N := 8) hx hb ht inX9 tyX9 tyX9_ok hown (ht _ wl_R_law_7) (ht _ wq_RX9) (ht _ wn_RX9) hSt hh hP hS rfl bl_X9 0 rfl (Nat.le_of_ble_eq_true rfl) (Nat.le_of_ble_eq_true rfl) dL_law_0 (fun H hP hS => ?_)
  refine W.widen (k := 1) (n := 8) (by omega) (by omega) ?_
  refine lv_dup hx hb dL_law_3 rfl ?_
  refine nw_I (pre := []) (xs := []) (e0 := .inr (9, [.null, .null, .null, .null, .null, .null, .null, .int 0])) (zs := R0) (As := []) (rest := [.ref (G.1 + 0)]) (n := 0) (mc := 119) (ms := 1423) ⟨hx, hb, hml, hown, hts⟩ hM wm_R_law_9 wi_yX9_init wn_RX9 wc_yX9_init rfl (by decide) ⟨(Nat.le_of_ble_eq_true rfl), (Nat.le_of_ble_eq_true rfl)⟩ ⟨rfl, rfl⟩ hSt hP hS rfl hl.1 rfl (Nat.le_of_ble_eq_true rfl) dL_law_4 ⟨(Nat.le_of_ble_eq_true rfl), (Nat.le_of_ble_eq_true rfl)⟩ (fun H locs hP hS => ?_)
  refine W.widen (k := 120) (n := 1431) (by omega) (by omega) ?_
  refine lv_astore_n (lv' := [(1, .ref (G.1 + 0)), (0, .ref b)]) hx hb dL_law_7 rfl hl (by decide) rfl (fun ls hl => ?_)
  exact kk _ _ _ hP hS hl
theorem rmkW_len (G : Gm) (h : Nat) : (rmkW G h).length = 120 := by
  unfold rmkW
  rw [List.length_append, List.length_cons, List.length_append, List.length_append, List.length_append, List.length_append, wldW_len, wldW_len, moorW_len, rdrW_len, vcsW_len, List.length_cons, acc_len (n := 1) (st := 3) rfl (fun _ => rfl)]
theorem whole_start {p : Program} {e : Env} {s : State} {m : MethodId} {below : List Frame} {meth : Method} {c : Code} (l : Launch) {b L : Nat} {xs : Nat → Int32} (hL : L ≤ 3072) (C0 : lw_At p s m meth c b L xs) : W p l e room_1 s m #[Value.ref b] below meth c s.heap [] 0 0 (lw_Z below #[Value.ref b] s) (entryFrame m ([Value.ref b] : List Value).toArray 4) := by
  obtain ⟨G, hG1, hSt, hTb⟩ := start_G C0
  exact st_0 C0 hG1 hSt rfl (fun H locs ls hP hS hl => st_8 C0 hSt (rmkW_len G 0) rfl hP hS hl (fun H locs ls hP hS hl => st_18 hL C0 hG1 hSt hTb hP hS hl))
