/-! ===== the law from its entry ===== -/
theorem kn_all {s : State} (L : List vw_C) (h : ∀ (k : Nat) (q : vw_C), L[k]? = some q → ∃ (c : ClassId) (i : Nat → Nat), u_Kn s q.1 q.2.1 q.2.2 c i) : ∃ D : va_G, ∀ (k : Nat) (q : vw_C), L[k]? = some q → u_Kn s q.1 q.2.1 q.2.2 (D.1 k) (D.2 k) := by
  have h1 : ∀ k : Nat, ∃ y : ClassId × (Nat → Nat), ∀ q : vw_C, L[k]? = some q → u_Kn s q.1 q.2.1 q.2.2 y.1 y.2 := by
    intro k
    cases hk : L[k]? with
    | none => exact ⟨(0, fun _ => 0), fun q hq => by cases hq⟩
    | some r =>
      obtain ⟨c, i, hc⟩ := h k r hk
      exact ⟨(c, i), fun q hq => by cases hq; exact hc⟩
  obtain ⟨f, hf⟩ := Classical.axiomOfChoice h1
  exact ⟨(fun k => (f k).1, fun k => (f k).2), fun k q hq => hf k q hq⟩
theorem kn_cls {s : State} {args : Array Value} (ht : ∀ w ∈ lwg, w.before args s = true) : ∃ D : va_G, ∀ (k : Nat) (q : vw_C), clsA[k]? = some q → u_Kn s q.1 q.2.1 q.2.2 (D.1 k) (D.2 k) := by
  apply kn_all
  intro k q hq
  match k, hq with
  | 0, hq => cases hq; exact u_known (C := RX0) (T := TX0) (N := 3) (n := 3) ht inX0 (ht _ wq_RX0)
  | 1, hq => cases hq; exact u_known (C := RX1) (T := TX1) (N := 9) (n := 9) ht inX1 (ht _ wq_RX1)
  | 2, hq => cases hq; exact u_known (C := RX2) (T := TX2) (N := 4) (n := 4) ht inX2 (ht _ wq_RX2)
  | 3, hq => cases hq; exact u_known (C := RX3) (T := TX3) (N := 2) (n := 2) ht inX3 (ht _ wq_RX3)
  | 4, hq => cases hq; exact u_known (C := RX4) (T := TX4) (N := 2) (n := 2) ht inX4 (ht _ wq_RX4)
  | 5, hq => cases hq; exact u_known (C := RX5) (T := TX5) (N := 6) (n := 6) ht inX5 (ht _ wq_RX5)
  | 6, hq => cases hq; exact u_known (C := RX6) (T := TX6) (N := 2) (n := 2) ht inX6 (ht _ wq_RX6)
  | 7, hq => cases hq; exact u_known (C := RX7) (T := TX7) (N := 4) (n := 4) ht inX7 (ht _ wq_RX7)
  | 8, hq => cases hq; exact u_known (C := RX8) (T := TX8) (N := 4) (n := 4) ht inX8 (ht _ wq_RX8)
  | 9, hq => cases hq; exact u_known (C := RX9) (T := TX9) (N := 8) (n := 8) ht inX9 (ht _ wq_RX9)
  | 10, hq => cases hq; exact u_known (C := RX10) (T := TX10) (N := 25) (n := 25) ht inX10 (ht _ wq_RX10)
  | k + 11, hq => exact absurd (List.getElem?_eq_some_iff.mp hq).1 (by show ¬ k + 11 < 11; omega)
theorem ar_int {s : State} {args : Array Value} (ht : ∀ w ∈ lwg, w.before args s = true) : ∃ cA : ClassId, ArrOfT s cA .int ∧ va_RA s cA .int := by
  obtain ⟨cA, kA, comp, e1, e2, e3⟩ := Cond.arrayClass_spec (ht _ wa_60)
  exact ⟨cA, fun n z => ⟨fun k h => (by cases h), kA, e2, comp, e3⟩, e1⟩
theorem ar_obj {s : State} {args : Array Value} {C : String} (h : (Cond.arrayOver (.object C)).before args s = true) : ∃ cA : ClassId, ArrOfT s cA (.object C) ∧ va_RA s cA (.object C) := by
  obtain ⟨comp, cA, kA, f1, f2, f3, f4, f5⟩ := Cond.arrayOver_spec h
  exact ⟨cA, fun n z => ⟨fun k h => (by cases h), kA, f3, comp, f4⟩, kA, comp, f3, f4, f1, f5⟩
theorem nest_tbl : ∀ w ∈ nestW, w ∈ lw_tbl ∧ w.onTables = true := by decide +kernel
theorem tb_one {b : Nat} {s : State} {A : Nat → Prop} (hts : ∀ w ∈ lw_tbl, w.before #[Value.ref b] s = true) (hgv : (Jvm.Cond.and given_1 narrow_1).before #[Value.ref b] s = true) {nm d : String} {ty : FieldType} {N : Nat} {f : Nat → Int32} (hN : N < 2 ^ 31) (h0 : Cond.initialized "RaddleMarks" ∈ lw_tbl) (h1 : Cond.laysStatic "RaddleMarks" nm d ∈ lw_tbl) (h2 : Cond.arrayOf (.static "RaddleMarks" nm d) ty ∈ flatC (Jvm.Cond.and given_1 narrow_1)) (h3 : Cond.eq (.length (.static "RaddleMarks" nm d)) (.int (Int32.ofNat N)) ∈ flatC (Jvm.Cond.and given_1 narrow_1)) (h4 : ∀ j : Nat, j < N → Cond.eq (.elem (.static "RaddleMarks" nm d) (.int (Int32.ofNat j))) (.int (f j)) ∈ flatC (Jvm.Cond.and given_1 narrow_1)) (hA : ∀ a : Nat, a < s.heap.size → ¬ A a) : ∃ t : Nat, va_Z "RaddleMarks" nm d (.ref t) A s s.heap ∧ va_T ty t N (fun j => .int (f j)) A s s.heap := by
  have hs := flat_of_before _ hgv
  obtain ⟨t, ht, hT⟩ := va_Tof (f := fun j => .int (f j)) hN (hs _ h2) (va_eqt (hs _ h3)) (fun j hj => va_eqt (hs _ (h4 j hj))) hA
  exact ⟨t, va_Zref (hts _ h1) (hts _ h0) ht hA, hT⟩
theorem fl_ka1 : Cond.laysStatic "RaddleMarks" "KIND_ABOVE" "[I" ∈ lw_tbl := by decide +kernel
theorem fl_bo1 : Cond.laysStatic "RaddleMarks" "BODIES" "[I" ∈ lw_tbl := by decide +kernel
theorem fl_na1 : Cond.laysStatic "RaddleMarks" "NAMES" "[C" ∈ lw_tbl := by decide +kernel
theorem fl_in : Cond.initialized "RaddleMarks" ∈ lw_tbl := by decide +kernel
theorem fl_ka2 : Cond.arrayOf (.static "RaddleMarks" "KIND_ABOVE" "[I") .int ∈ flatC (Jvm.Cond.and given_1 narrow_1) ∧ Cond.eq (.length (.static "RaddleMarks" "KIND_ABOVE" "[I")) (.int (Int32.ofNat 7)) ∈ flatC (Jvm.Cond.and given_1 narrow_1) := by decide +kernel
theorem fl_ka3 : ∀ j : Nat, j < 7 → Cond.eq (.elem (.static "RaddleMarks" "KIND_ABOVE" "[I") (.int (Int32.ofNat j))) (.int (KA j)) ∈ flatC (Jvm.Cond.and given_1 narrow_1) := by decide +kernel
theorem fl_bo2 : Cond.arrayOf (.static "RaddleMarks" "BODIES" "[I") .int ∈ flatC (Jvm.Cond.and given_1 narrow_1) ∧ Cond.eq (.length (.static "RaddleMarks" "BODIES" "[I")) (.int (Int32.ofNat 28)) ∈ flatC (Jvm.Cond.and given_1 narrow_1) := by decide +kernel
theorem fl_bo3 : ∀ j : Nat, j < 28 → Cond.eq (.elem (.static "RaddleMarks" "BODIES" "[I") (.int (Int32.ofNat j))) (.int (BO j)) ∈ flatC (Jvm.Cond.and given_1 narrow_1) := by decide +kernel
theorem fl_na2 : Cond.arrayOf (.static "RaddleMarks" "NAMES" "[C") .char ∈ flatC (Jvm.Cond.and given_1 narrow_1) ∧ Cond.eq (.length (.static "RaddleMarks" "NAMES" "[C")) (.int (Int32.ofNat 6)) ∈ flatC (Jvm.Cond.and given_1 narrow_1) := by decide +kernel
theorem fl_na3 : ∀ j : Nat, j < 6 → Cond.eq (.elem (.static "RaddleMarks" "NAMES" "[C") (.int (Int32.ofNat j))) (.int (NA j)) ∈ flatC (Jvm.Cond.and given_1 narrow_1) := by decide +kernel
theorem fl_ao : Cond.arrayOver (.object "RaddleMarks$Seeker") ∈ lw_tbl ∧ Cond.arrayOver (.object "RaddleMarks$Sheep") ∈ lw_tbl ∧ Cond.arrayOver (.object "RaddleMarks$Sheet") ∈ lw_tbl := by decide +kernel
theorem start_G {p : Program} {s : State} {m : MethodId} {meth : Method} {c : Code} {b L : Nat} {xs : Nat → Int32} (C0 : lw_At p s m meth c b L xs) : ∃ G : Gm, G.1 = s.heap.size ∧ StI G s ∧ Tbs G s s.heap := by
  obtain ⟨hx, hb, hr, hml, hown, hts, hX, hbl, hlocks, hgv⟩ := C0
  have ht : ∀ w ∈ lwg, w.before #[Value.ref b] s = true := fun w h => hts w (List.mem_filter.mp h).1
  obtain ⟨D, hD⟩ := kn_cls ht
  obtain ⟨a0, ha0⟩ := ar_int ht
  obtain ⟨a1, ha1⟩ := ar_obj (hts _ fl_ao.1)
  obtain ⟨a2, ha2⟩ := ar_obj (hts _ fl_ao.2.1)
  obtain ⟨a3, ha3⟩ := ar_obj (hts _ fl_ao.2.2)
  have hA : ∀ a : Nat, a < s.heap.size → ¬ (s.heap.size ≤ a ∧ a < s.heap.size + nW) := fun a h z => by omega
  obtain ⟨t1, hZ1, hT1⟩ := tb_one (f := KA) (A := fun q => s.heap.size ≤ q ∧ q < s.heap.size + nW) hts hgv (by decide) fl_in fl_ka1 fl_ka2.1 fl_ka2.2 fl_ka3 hA
  obtain ⟨t2, hZ2, hT2⟩ := tb_one (f := BO) (A := fun q => s.heap.size ≤ q ∧ q < s.heap.size + nW) hts hgv (by decide) fl_in fl_bo1 fl_bo2.1 fl_bo2.2 fl_bo3 hA
  obtain ⟨t3, hZ3, hT3⟩ := tb_one (f := NA) (A := fun q => s.heap.size ≤ q ∧ q < s.heap.size + nW) hts hgv (by decide) fl_in fl_na1 fl_na2.1 fl_na2.2 fl_na3 hA
  refine ⟨(s.heap.size, D, (a0, a1, a2, a3), (t1, t2, t3)), rfl, ⟨⟨⟨hD, fun k q hq => ?_⟩, fun w hw => va_Nw.of (nest_tbl w hw).2 (hts w (nest_tbl w hw).1)⟩, va_AO.of (hts _ fl_ao.1), va_AO.of (hts _ fl_ao.2.1), va_AO.of (hts _ fl_ao.2.2)⟩, ⟨hZ1, hT1⟩, ⟨hZ2, hT2⟩, ⟨hZ3, hT3⟩⟩
  match k, hq with
  | 0, hq => cases hq; exact ha0
  | 1, hq => cases hq; exact ha1
  | 2, hq => cases hq; exact ha2
  | 3, hq => cases hq; exact ha3
  | k + 4, hq => exact absurd (List.getElem?_eq_some_iff.mp hq).1 (by show ¬ k + 4 < 4; omega)
set_option maxHeartbeats 4000000 in
set_option maxRecDepth 100000 in
theorem whole_start {p : Program} {e : Env} {s : State} {m : MethodId} {below : List Frame} {meth : Method} {c : Code} (l : Launch) {b L : Nat} {xs : Nat → Int32} (hL : L ≤ 3072) (C0 : lw_At p s m meth c b L xs) : W p l e room_1 s m #[Value.ref b] below meth c s.heap [] 0 0 (lw_Z below #[Value.ref b] s) (entryFrame m ([Value.ref b] : List Value).toArray 4) := by
  obtain ⟨G, hG1, hSt, hTb⟩ := start_G C0
  obtain ⟨hx, hb, hr, hml, hown, hts0, hX, hbl, hlocks, hgv⟩ := id C0
  have ht : ∀ w ∈ lwg, w.before #[Value.ref b] s = true := fun w h => hts0 w (List.mem_filter.mp h).1
  have hts : ∀ w ∈ ((.initialized R_law : Cond) :: lwg), w.before #[Value.ref b] s = true := fun w h => by
    rcases List.mem_cons.mp h with rfl | q
    · exact ht _ wn_R_law
    · exact ht w q
  have hP : gP G ([] ++ []) s.heap := ⟨fun k e hk => by simp at hk, hG1.symm⟩
  have hS : va_S (upA G) s.heap s.heap [] := va_S.rf
  have hh : ([] : List va_E).length = 0 := rfl
  have hl := lv_entry ([.ref b]) (n := 4) (Nat.le_of_ble_eq_true rfl)
  rw [lg_entry_eq]
  generalize (lg_sl ([.ref b]) ++ List.replicate (4 - (lg_sl ([.ref b])).length) Slot.unset).toArray = ls at hl ⊢
  have hl : lv_has ls 4 [(0, .ref b)] := hl
  refine nw_new (pre := []) (xs := []) (ci := 9) (fs := [.null, .null, .null, .null, .null, .null, .null, .int 0]) (C := RX9) (T := TX9) (N := 8) hx hb ht inX9 tyX9 tyX9_ok hown (ht _ wl_R_law_7) (ht _ wq_RX9) (ht _ wn_RX9) hSt hh hP hS rfl (fun j hj => by rcases (show j = 0 ∨ j = 1 ∨ j = 2 ∨ j = 3 ∨ j = 4 ∨ j = 5 ∨ j = 6 ∨ j = 7 by omega) with rfl | rfl | rfl | rfl | rfl | rfl | rfl | rfl <;> rfl) 0 rfl (Nat.le_of_ble_eq_true rfl) (Nat.le_of_ble_eq_true rfl) dL_law_0 (fun H hP hS => ?_)
  refine W.widen (k := 1) (n := 8) (by omega) (by omega) ?_
  refine lv_dup hx hb dL_law_3 rfl ?_
  refine nw_I (pre := []) (xs := []) (e0 := .inr (9, [.null, .null, .null, .null, .null, .null, .null, .int 0])) (zs := rmkW G 0) (As := []) (rest := [.ref (G.1 + 0)]) (n := 0) (mc := 119) (ms := 1423) ⟨hx, hb, hml, hown, hts⟩ (cn_X9 l G [] 0 rfl) wm_R_law_9 wi_yX9_init wn_RX9 wc_yX9_init rfl (by decide) ⟨(Nat.le_of_ble_eq_true rfl), (Nat.le_of_ble_eq_true rfl)⟩ ⟨rfl, rfl⟩ hSt hP hS rfl hl.1 rfl (Nat.le_of_ble_eq_true rfl) dL_law_4 ⟨(Nat.le_of_ble_eq_true rfl), (Nat.le_of_ble_eq_true rfl)⟩ (fun H locs hP hS => ?_)
  have hP : gP G ([] ++ rmkW G 0) H := hP
  refine W.widen (k := 120) (n := 1431) (by omega) (by omega) ?_
  refine lv_astore_n (lv' := [(1, .ref (G.1 + 0)), (0, .ref b)]) hx hb dL_law_7 rfl hl (by decide) rfl (fun ls hl => ?_)
  refine nw_new (pre := []) (xs := rmkW G 0) (ci := 10) (fs := [.null, .null, .null, .int 0, .int 0, .null, .int 0, .int 0, .int 0, .int 0, .int 0, .int 0, .null, .null, .null, .null, .null, .null, .null, .null, .null, .int 0, .int 0, .int 0, .int 0]) (C := RX10) (T := TX10) (N := 25) hx hb ht inX10 tyX10 tyX10_ok hown (ht _ wl_R_law_10) (ht _ wq_RX10) (ht _ wn_RX10) hSt hh hP hS rfl (fun j hj => by rcases (show j = 0 ∨ j = 1 ∨ j = 2 ∨ j = 3 ∨ j = 4 ∨ j = 5 ∨ j = 6 ∨ j = 7 ∨ j = 8 ∨ j = 9 ∨ j = 10 ∨ j = 11 ∨ j = 12 ∨ j = 13 ∨ j = 14 ∨ j = 15 ∨ j = 16 ∨ j = 17 ∨ j = 18 ∨ j = 19 ∨ j = 20 ∨ j = 21 ∨ j = 22 ∨ j = 23 ∨ j = 24 by omega) with rfl | rfl | rfl | rfl | rfl | rfl | rfl | rfl | rfl | rfl | rfl | rfl | rfl | rfl | rfl | rfl | rfl | rfl | rfl | rfl | rfl | rfl | rfl | rfl | rfl <;> rfl) 120 rfl (Nat.le_of_ble_eq_true rfl) (Nat.le_of_ble_eq_true rfl) dL_law_8 (fun H hP hS => ?_)
  refine W.widen (k := 121) (n := 1456) (by omega) (by omega) ?_
  refine lv_dup hx hb dL_law_11 rfl ?_
  refine nw_I (pre := []) (xs := rmkW G 0) (e0 := .inr (10, [.null, .null, .null, .int 0, .int 0, .null, .int 0, .int 0, .int 0, .int 0, .int 0, .int 0, .null, .null, .null, .null, .null, .null, .null, .null, .null, .int 0, .int 0, .int 0, .int 0])) (zs := mdlW G 120) (As := []) (rest := [.ref (G.1 + 120)]) (n := 0) (mc := 13) (ms := 1089) ⟨hx, hb, hml, hown, hts⟩ (cn_X10 l G (rmkW G 0) 120 rfl) wm_R_law_12 wi_yX10_init wn_RX10 wc_yX10_init rfl (by decide) ⟨(Nat.le_of_ble_eq_true rfl), (Nat.le_of_ble_eq_true rfl)⟩ ⟨rfl, rfl⟩ hSt hP hS rfl hl.1 rfl (Nat.le_of_ble_eq_true rfl) dL_law_12 ⟨(Nat.le_of_ble_eq_true rfl), (Nat.le_of_ble_eq_true rfl)⟩ (fun H locs hP hS => ?_)
  have hP : gP G (rmkW G 0 ++ mdlW G 120) H := hP
  refine W.widen (k := 134) (n := 2545) (by omega) (by omega) ?_
  refine lv_astore_n (lv' := [(2, .ref (G.1 + 120)), (1, .ref (G.1 + 0)), (0, .ref b)]) hx hb dL_law_15 rfl hl (by decide) rfl (fun ls hl => ?_)
  refine lv_iconst (v := 0) hx hb dL_law_16 (by decide) ?_
  refine lv_istore_n (lv' := [(3, .int 0), (2, .ref (G.1 + 120)), (1, .ref (G.1 + 0)), (0, .ref b)]) hx hb dL_law_17 rfl hl (by decide) rfl (fun ls hl => ?_)
  refine va_forget (fun q hq => by rw [← hG1]; exact hS.2.2 q hq) ?_
  have hS2 : va_S (inW G) s.heap H [] := ⟨hS.1, fun q h1 _ => hS.2.1 q h1 (fun z => by unfold upA at z; omega), fun _ h => by cases h⟩
  exact law_run C0 hSt.1 hTb (fun q h => by rw [← hG1]; exact h.1) (fun z => by have := z.1; omega) (by omega) (by omega) hL L 0 0 0 M0 H [] ls (by omega) nI_0.symm rfl (by omega) INV_0 (fresh_P hP) hS2 (lv_sub hl [3, 2, 1, 0] rfl)
