/-! ===== the law from its entry ===== -/
theorem kn_all {s : State} (L : List vw_C) (h : ∀ (k : Nat) (q : vw_C), L[k]? = some q → ∃ (c : ClassId) (i : Nat → Nat), u_Kn s q.1 q.2.1 q.2.2 c i) : ∃ D : va_G, ∀ (k : Nat) (q : vw_C), L[k]? = some q → u_Kn s q.1 q.2.1 q.2.2 (D.1 k) (D.2 k) := by
  have h1 : ∀ k : Nat, ∃ y : ClassId × (Nat → Nat), ∀ q : vw_C, L[k]? = some q → u_Kn s q.1 q.2.1 q.2.2 y.1 y.2 := by
    intro k
    cases hk : L[k]? with
    | none => exact ⟨(0, fun _ => 0), fun q hq => by cases hq⟩
    | some r =>
      obtain ⟨c, i, hc⟩ := h k r hk
      exact ⟨(c, i), fun q hq => by cases hq; exact hc⟩
  obtain ⟨f, hf⟩ := Classical.axiomOfChoice h1
  exact ⟨(fun k => (f k).1, fun k => (f k).2), fun k q hq => hf k q hq⟩
theorem kn_cls {s : State} {args : Array Value} (ht : ∀ w ∈ lwg, w.before args s = true) : ∃ D : va_G, ∀ (k : Nat) (q : vw_C), clsA[k]? = some q → u_Kn s q.1 q.2.1 q.2.2 (D.1 k) (D.2 k) := by
  apply kn_all
  intro k q hq
  match k, hq with
  | 0, hq => cases hq; exact u_known (C := RX0) (T := TX0) (N := 3) (n := 3) ht inX0 (ht _ wq_RX0)
  | 1, hq => cases hq; exact u_known (C := RX1) (T := TX1) (N := 9) (n := 9) ht inX1 (ht _ wq_RX1)
  | 2, hq => cases hq; exact u_known (C := RX2) (T := TX2) (N := 4) (n := 4) ht inX2 (ht _ wq_RX2)
  | 3, hq => cases hq; exact u_known (C := RX3) (T := TX3) (N := 2) (n := 2) ht inX3 (ht _ wq_RX3)
  | 4, hq => cases hq; exact u_known (C := RX4) (T := TX4) (N := 2) (n := 2) ht inX4 (ht _ wq_RX4)
  | 5, hq => cases hq; exact u_known (C := RX5) (T := TX5) (N := 6) (n := 6) ht inX5 (ht _ wq_RX5)
  | 6, hq => cases hq; exact u_known (C := RX6) (T := TX6) (N := 2) (n := 2) ht inX6 (ht _ wq_RX6)
  | 7, hq => cases hq; exact u_known (C := RX7) (T := TX7) (N := 4) (n := 4) ht inX7 (ht _ wq_RX7)
  | 8, hq => cases hq; exact u_known (C := RX8) (T := TX8) (N := 4) (n := 4) ht inX8 (ht _ wq_RX8)
  | 9, hq => cases hq; exact u_known (C := RX9) (T := TX9) (N := 8) (n := 8) ht inX9 (ht _ wq_RX9)
  | 10, hq => cases hq; exact u_known (C := RX10) (T := TX10) (N := 25) (n := 25) ht inX10 (ht _ wq_RX10)
  | k + 11, hq => exact absurd (List.getElem?_eq_some_iff.mp hq).1 (by show ¬ k + 11 < 11; omega)
theorem ar_int {s : State} {args : Array Value} (ht : ∀ w ∈ lwg, w.before args s = true) : ∃ cA : ClassId, ArrOfT s cA .int ∧ va_RA s cA .int := by
  obtain ⟨cA, kA, comp, e1, e2, e3⟩ := Cond.arrayClass_spec (ht _ wa_60)
  exact ⟨cA, fun n z => ⟨fun k h => (by cases h), kA, e2, comp, e3⟩, e1⟩
theorem ar_obj {s : State} {args : Array Value} {C : String} (h : (Cond.arrayOver (.object C)).before args s = true) : ∃ cA : ClassId, ArrOfT s cA (.object C) ∧ va_RA s cA (.object C) := by
  obtain ⟨comp, cA, kA, f1, f2, f3, f4, f5⟩ := Cond.arrayOver_spec h
  exact ⟨cA, fun n z => ⟨fun k h => (by cases h), kA, f3, comp, f4⟩, kA, comp, f3, f4, f1, f5⟩
theorem nest_tbl : ∀ w ∈ nestW, w ∈ lw_tbl ∧ w.onTables = true := by decide +kernel
theorem tb_one {b : Nat} {s : State} {A : Nat → Prop} (hts : ∀ w ∈ lw_tbl, w.before #[Value.ref b] s = true) (hgv : (Jvm.Cond.and given_1 narrow_1).before #[Value.ref b] s = true) {nm d : String} {ty : FieldType} {N : Nat} {f : Nat → Int32} (hN : N < 2 ^ 31) (h0 : Cond.initialized "RaddleMarks" ∈ lw_tbl) (h1 : Cond.laysStatic "RaddleMarks" nm d ∈ lw_tbl) (h2 : Cond.arrayOf (.static "RaddleMarks" nm d) ty ∈ flatC (Jvm.Cond.and given_1 narrow_1)) (h3 : Cond.eq (.length (.static "RaddleMarks" nm d)) (.int (Int32.ofNat N)) ∈ flatC (Jvm.Cond.and given_1 narrow_1)) (h4 : ∀ j : Nat, j < N → Cond.eq (.elem (.static "RaddleMarks" nm d) (.int (Int32.ofNat j))) (.int (f j)) ∈ flatC (Jvm.Cond.and given_1 narrow_1)) (hA : ∀ a : Nat, a < s.heap.size → ¬ A a) : ∃ t : Nat, va_Z "RaddleMarks" nm d (.ref t) A s s.heap ∧ va_T ty t N (fun j => .int (f j)) A s s.heap := by
  have hs := flat_of_before _ hgv
  obtain ⟨t, ht, hT⟩ := va_Tof (f := fun j => .int (f j)) hN (hs _ h2) (va_eqt (hs _ h3)) (fun j hj => va_eqt (hs _ (h4 j hj))) hA
  exact ⟨t, va_Zref (hts _ h1) (hts _ h0) ht hA, hT⟩
theorem fl_ka1 : Cond.laysStatic "RaddleMarks" "KIND_ABOVE" "[I" ∈ lw_tbl := by decide +kernel
theorem fl_bo1 : Cond.laysStatic "RaddleMarks" "BODIES" "[I" ∈ lw_tbl := by decide +kernel
theorem fl_na1 : Cond.laysStatic "RaddleMarks" "NAMES" "[C" ∈ lw_tbl := by decide +kernel
theorem fl_in : Cond.initialized "RaddleMarks" ∈ lw_tbl := by decide +kernel
theorem fl_ka2 : Cond.arrayOf (.static "RaddleMarks" "KIND_ABOVE" "[I") .int ∈ flatC (Jvm.Cond.and given_1 narrow_1) ∧ Cond.eq (.length (.static "RaddleMarks" "KIND_ABOVE" "[I")) (.int (Int32.ofNat 7)) ∈ flatC (Jvm.Cond.and given_1 narrow_1) := by decide +kernel
theorem fl_ka3 : ∀ j : Nat, j < 7 → Cond.eq (.elem (.static "RaddleMarks" "KIND_ABOVE" "[I") (.int (Int32.ofNat j))) (.int (KA j)) ∈ flatC (Jvm.Cond.and given_1 narrow_1) := by decide +kernel
theorem fl_bo2 : Cond.arrayOf (.static "RaddleMarks" "BODIES" "[I") .int ∈ flatC (Jvm.Cond.and given_1 narrow_1) ∧ Cond.eq (.length (.static "RaddleMarks" "BODIES" "[I")) (.int (Int32.ofNat 28)) ∈ flatC (Jvm.Cond.and given_1 narrow_1) := by decide +kernel
theorem fl_bo3 : ∀ j : Nat, j < 28 → Cond.eq (.elem (.static "RaddleMarks" "BODIES" "[I") (.int (Int32.ofNat j))) (.int (BO j)) ∈ flatC (Jvm.Cond.and given_1 narrow_1) := by decide +kernel
theorem fl_na2 : Cond.arrayOf (.static "RaddleMarks" "NAMES" "[C") .char ∈ flatC (Jvm.Cond.and given_1 narrow_1) ∧ Cond.eq (.length (.static "RaddleMarks" "NAMES" "[C")) (.int (Int32.ofNat 6)) ∈ flatC (Jvm.Cond.and given_1 narrow_1) := by decide +kernel
theorem fl_na3 : ∀ j : Nat, j < 6 → Cond.eq (.elem (.static "RaddleMarks" "NAMES" "[C") (.int (Int32.ofNat j))) (.int (NA j)) ∈ flatC (Jvm.Cond.and given_1 narrow_1) := by decide +kernel
theorem fl_ao : Cond.arrayOver (.object "RaddleMarks$Seeker") ∈ lw_tbl ∧ Cond.arrayOver (.object "RaddleMarks$Sheep") ∈ lw_tbl ∧ Cond.arrayOver (.object "RaddleMarks$Sheet") ∈ lw_tbl := by decide +kernel
theorem start_G {p : Program} {s : State} {m : MethodId} {meth : Method} {c : Code} {b L : Nat} {xs : Nat → Int32} (C0 : lw_At p s m meth c b L xs) : ∃ G : Gm, G.1 = s.heap.size ∧ StI G s ∧ Tbs G s s.heap := by
  obtain ⟨hx, hb, hr, hml, hown, hts, hX, hbl, hlocks, hgv⟩ := C0
  have ht : ∀ w ∈ lwg, w.before #[Value.ref b] s = true := fun w h => hts w (List.mem_filter.mp h).1
  obtain ⟨D, hD⟩ := kn_cls ht
  obtain ⟨a0, ha0⟩ := ar_int ht
  obtain ⟨a1, ha1⟩ := ar_obj (hts _ fl_ao.1)
  obtain ⟨a2, ha2⟩ := ar_obj (hts _ fl_ao.2.1)
  obtain ⟨a3, ha3⟩ := ar_obj (hts _ fl_ao.2.2)
  have hA : ∀ a : Nat, a < s.heap.size → ¬ (s.heap.size ≤ a ∧ a < s.heap.size + nW) := fun a h z => by omega
  obtain ⟨t1, hZ1, hT1⟩ := tb_one (f := KA) (A := fun q => s.heap.size ≤ q ∧ q < s.heap.size + nW) hts hgv (by decide) fl_in fl_ka1 fl_ka2.1 fl_ka2.2 fl_ka3 hA
  obtain ⟨t2, hZ2, hT2⟩ := tb_one (f := BO) (A := fun q => s.heap.size ≤ q ∧ q < s.heap.size + nW) hts hgv (by decide) fl_in fl_bo1 fl_bo2.1 fl_bo2.2 fl_bo3 hA
  obtain ⟨t3, hZ3, hT3⟩ := tb_one (f := NA) (A := fun q => s.heap.size ≤ q ∧ q < s.heap.size + nW) hts hgv (by decide) fl_in fl_na1 fl_na2.1 fl_na2.2 fl_na3 hA
  refine ⟨(s.heap.size, D, (a0, a1, a2, a3), (t1, t2, t3)), rfl, ⟨⟨⟨hD, fun k q hq => ?_⟩, fun w hw => va_Nw.of (nest_tbl w hw).2 (hts w (nest_tbl w hw).1)⟩, va_AO.of (hts _ fl_ao.1), va_AO.of (hts _ fl_ao.2.1), va_AO.of (hts _ fl_ao.2.2)⟩, ⟨hZ1, hT1⟩, ⟨hZ2, hT2⟩, ⟨hZ3, hT3⟩⟩
  match k, hq with
  | 0, hq => cases hq; exact ha0
  | 1, hq => cases hq; exact ha1
  | 2, hq => cases hq; exact ha2
  | 3, hq => cases hq; exact ha3
  | k + 4, hq => exact absurd (List.getElem?_eq_some_iff.mp hq).1 (by show ¬ k + 4 < 4; omega)
