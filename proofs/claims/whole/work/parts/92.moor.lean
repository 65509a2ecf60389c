def acc (B0 : List va_E) (Z : Nat → List va_E) : Nat → List va_E
  | 0 => B0
  | i + 1 => acc B0 Z i ++ Z i
theorem acc_len {B0 : List va_E} {Z : Nat → List va_E} {n st : Nat} (h0 : B0.length = n) (hZ : ∀ i, (Z i).length = st) : ∀ i, (acc B0 Z i).length = n + st * i
  | 0 => h0
  | i + 1 => by
    show (acc B0 Z i ++ Z i).length = _
    rw [List.length_append, acc_len h0 hZ i, hZ, Nat.mul_succ, Nat.add_assoc]
theorem acc_app (X Y : List va_E) (Z : Nat → List va_E) : ∀ i, acc (X ++ Y) Z i = X ++ acc Y Z i
  | 0 => rfl
  | i + 1 => by
    show acc (X ++ Y) Z i ++ Z i = X ++ (acc Y Z i ++ Z i)
    rw [acc_app X Y Z i, List.append_assoc]
def upF (g : Nat → Nat) (i : Nat) : Nat → Option Nat := fun k => if k < i then some (g k) else none
theorem upF_0 (g : Nat → Nat) : upF g 0 = fun _ => none := by
  funext k
  simp [upF]
theorem upF_up (g : Nat → Nat) (i : Nat) : va_up (upF g i) i (some (g i)) = upF g (i + 1) := by
  funext k
  unfold va_up upF
  by_cases h : k = i
  · subst h
    rw [if_pos rfl, if_pos (Nat.lt_succ_self k)]
  · rw [if_neg h]
    by_cases h2 : k < i
    · rw [if_pos h2, if_pos (by omega)]
    · rw [if_neg h2, if_neg (by omega)]
theorem upF_at {g : Nat → Nat} {n : Nat} {t : Nat → Nat} (h : ∀ i, g i = t i) : ∀ i, i < n → upF g n i = some (t i) := by
  intro i hi
  unfold upF
  rw [if_pos hi, h]
theorem mid_at {A X : List va_E} {a : va_E} {n : Nat} (hA : A.length = n) : (A ++ (a :: X))[n]? = some a := by
  subst hA
  rw [List.getElem?_append_right (Nat.le_refl _), Nat.sub_self]
  rfl
theorem mid_set {A X : List va_E} {a a' : va_E} {n : Nat} (hA : A.length = n) : (A ++ (a :: X)).set n a' = A ++ (a' :: X) := by
  subst hA
  rw [List.set_append_right _ _ (Nat.le_refl _), Nat.sub_self]
  rfl
theorem low_at {A X : List va_E} {k : Nat} {e : va_E} (h : A[k]? = some e) : (A ++ X)[k]? = some e := by
  rw [List.getElem?_append_left (List.getElem?_eq_some_iff.mp h).1]
  exact h
theorem last_at {A B Z : List va_E} {a e : va_E} {n : Nat} (h : A.length + 1 + B.length = n) : (A ++ (a :: (B ++ (e :: Z))))[n]? = some e := by
  subst h
  rw [List.getElem?_append_right (by omega), show A.length + 1 + B.length - A.length = B.length + 1 by omega, List.getElem?_cons_succ, List.getElem?_append_right (Nat.le_refl _), Nat.sub_self]
  rfl
set_option maxHeartbeats 4000000 in
set_option maxRecDepth 100000 in
theorem lp_seekers (l : Launch) {p : Program} {e : Env} {s : State} {m : MethodId} {args : Array Value} {below : List Frame} {meth : Method} {c : Code} {G : Gm} {pre : List va_E} {h : Nat} {Q : State → Prop} (E_ : En p s m args meth c G yX1_init.cls cX1_init 2 (Cond.code yX1_init cX1_init 2 none)) (hh : pre.length = h) (A B0 : List va_E) (sf : List Value) (hA : A.length = 12) (hB0 : B0.length = 3) (h0 : A[0]? = some (.inr (1, sf))) (h3 : sf[3]? = some (.ref (G.1 + (h + 12))))
    (kk : ∀ (H : Heap) (locs : List Loc) (ls : Array Slot), gP G (pre ++ (A ++ (.inl (G.2.2.1.2.1, 6, .inr (.inr (.inr (.inr (fun i => some (G.1 + (h + 12 + 4 + i))))))) :: acc B0 (fun i => [.inr (4, [.int 0, .int 0])]) 6))) H → va_S (upA G) s.heap H locs → lv_has ls 2 [(0, .ref (G.1 + h))] → W p l e ({ frames := 3, cells := 28, slots := 300, locals := 192 } : Room) s m args below meth c H locs 21 258 Q (F0 m 95 ls [])) :
    ∀ (k i : Nat) (x : Int32) (H : Heap) (locs : List Loc) (ls : Array Slot), i + k = 6 → x = nI i → gP G (pre ++ (A ++ (.inl (G.2.2.1.2.1, 6, .inr (.inr (.inr (.inr (upF (fun k => G.1 + (h + (16 + 1 * k))) i))))) :: acc B0 (fun i => [.inr (4, [.int 0, .int 0])]) i))) H → va_S (upA G) s.heap H locs → lv_has ls 2 [(1, .int x), (0, .ref (G.1 + h))] → W p l e ({ frames := 3, cells := 28, slots := 300, locals := 192 } : Room) s m args below meth c H locs (15 + 1 * i) (246 + 2 * i) Q (F0 m 70 ls []) := by
  obtain ⟨hx, hb, hml, hown, hts, ht, hr, hlocks, hSt, hin⟩ := id E_
  intro k
  induction k with
  | zero =>
    intro i x H locs ls hk ex hP hS hl
    have hi : i = 6 := hk
    subst hi
    refine lv_iload_n hx hb dX1_init_70 rfl (lv_at hl 0 rfl) ?_
    refine lv_bipush (v := 6) hx hb dX1_init_71 (by decide) ?_
    refine lv_icmp_ge (tgt := 95) hx hb dX1_init_73 (by decide) (fun _ => ?_) (fun c_ => absurd (by rw [ex]; decide) c_)
    have hP := hP.refs (xs := A ++ (.inl (G.2.2.1.2.1, 6, .inr (.inr (.inr (.inr (upF (fun k => G.1 + (h + (16 + 1 * k))) 6))))) :: acc B0 (fun i => [.inr (4, [.int 0, .int 0])]) 6)) 12 (fun i => some (G.1 + (h + 12 + 4 + i))) (mid_at hA) (upF_at (g := (fun k => G.1 + (h + (16 + 1 * k)))) (n := 6) (fun i => by show _ = _; omega))
    rw [mid_set hA] at hP
    exact kk _ _ _ hP hS (lv_sub hl [1] rfl)
  | succ k ih =>
    intro i x H locs ls hk ex hP hS hl
    refine lv_iload_n hx hb dX1_init_70 rfl (lv_at hl 0 rfl) ?_
    refine lv_bipush (v := 6) hx hb dX1_init_71 (by decide) ?_
    refine lv_icmp_ge (tgt := 95) hx hb dX1_init_73 (by decide) (fun c_ => absurd c_ (by rw [ex]; exact nI_ge (a := i) (b := 6) (by omega) (by decide))) (fun _ => ?_)
    have hBl := acc_len (Z := (fun i => [.inr (4, [.int 0, .int 0])])) (st := 1) hB0 (fun _ => rfl) i
    have hlen : (A ++ (.inl (G.2.2.1.2.1, 6, .inr (.inr (.inr (.inr (upF (fun k => G.1 + (h + (16 + 1 * k))) i))))) :: acc B0 (fun i => [.inr (4, [.int 0, .int 0])]) i)).length = 16 + 1 * i := by rw [List.length_append, List.length_cons, hA, hBl]; omega
    refine lv_aload_n hx hb dX1_init_76 rfl (lv_at hl 1 rfl) ?_
    refine nw_get (xs := A ++ (.inl (G.2.2.1.2.1, 6, .inr (.inr (.inr (.inr (upF (fun k => G.1 + (h + (16 + 1 * k))) i))))) :: acc B0 (fun i => [.inr (4, [.int 0, .int 0])]) i)) (ci := 1) (v := .ref (G.1 + (h + 12))) (C := RX1) (T := TX1) (N := 9) hx hb ht inX1 hown hSt hh hP 0 (low_at h0) rfl 3 (by decide) (ht _ wf_RX1_29) h3 dX1_init_77 ?_
    refine lv_iload_n hx hb dX1_init_80 rfl (lv_at hl 0 rfl) ?_
    refine nw_new (xs := A ++ (.inl (G.2.2.1.2.1, 6, .inr (.inr (.inr (.inr (upF (fun k => G.1 + (h + (16 + 1 * k))) i))))) :: acc B0 (fun i => [.inr (4, [.int 0, .int 0])]) i)) (ci := 4) (fs := [.int 0, .int 0]) (C := RX4) (T := TX4) (N := 2) hx hb ht inX4 tyX4 tyX4_ok hown (ht _ wl_RX1_27) (ht _ wq_RX4) (ht _ wn_RX4) hSt hh hP hS rfl (fun j hj => by rcases (show j = 0 ∨ j = 1 by omega) with rfl | rfl <;> rfl) (16 + 1 * i) hlen (by show 15 + 1 * i + 1 ≤ 28; omega) (by show 246 + 2 * i + 2 ≤ 300; omega) dX1_init_81 (fun H hP hS => ?_)
    refine lv_dup hx hb dX1_init_84 rfl ?_
    refine nw_IN (host := "RaddleMarks") (pre := pre) (xs := A ++ (.inl (G.2.2.1.2.1, 6, .inr (.inr (.inr (.inr (upF (fun k => G.1 + (h + (16 + 1 * k))) i))))) :: acc B0 (fun i => [.inr (4, [.int 0, .int 0])]) i)) (As := []) (rest := [.ref (G.1 + (h + (16 + 1 * i))), .int x, .ref (G.1 + (h + 12))]) (n := 0) (mc := 0) (ms := 0) ⟨hx, hb, hml, hown, hts⟩ (cn_X4 l G (pre ++ (A ++ (.inl (G.2.2.1.2.1, 6, .inr (.inr (.inr (.inr (upF (fun k => G.1 + (h + (16 + 1 * k))) i))))) :: acc B0 (fun i => [.inr (4, [.int 0, .int 0])]) i))) (h + (16 + 1 * i)) (by rw [List.length_append, hh, hlen])) (by decide) wi_yX4_init wn_RX4 wc_yX4_init rfl (by decide) ⟨(Nat.le_of_ble_eq_true rfl), (Nat.le_of_ble_eq_true rfl)⟩ ⟨rfl, rfl⟩ hSt hP hS rfl hl.1 rfl (Nat.le_of_ble_eq_true rfl) dX1_init_85 ⟨(by show 15 + 1 * i + 1 + 0 ≤ 28; omega), (by show 246 + 2 * i + 2 + 0 ≤ 300; omega)⟩ (fun H locs hP hS => ?_)
    rw [List.append_assoc A, List.cons_append] at hP
    have hq : (A ++ (.inl (G.2.2.1.2.1, 6, .inr (.inr (.inr (.inr (upF (fun k => G.1 + (h + (16 + 1 * k))) i))))) :: (acc B0 (fun i => [.inr (4, [.int 0, .int 0])]) i ++ [.inr (4, [.int 0, .int 0])])))[16 + 1 * i]? = some (.inr (4, [.int 0, .int 0])) := last_at (by rw [hA, hBl]; omega)
    refine nw_aast (xs := A ++ (.inl (G.2.2.1.2.1, 6, .inr (.inr (.inr (.inr (upF (fun k => G.1 + (h + (16 + 1 * k))) i))))) :: (acc B0 (fun i => [.inr (4, [.int 0, .int 0])]) i ++ [.inr (4, [.int 0, .int 0])]))) hx hb hSt hh hP hS 12 1 (16 + 1 * i) 4 (mid_at hA) rfl hq rfl (by rw [ex]; exact vp_in_nI (by omega) (by decide)) i (by rw [ex]; exact nI_clamp (by omega)) dX1_init_88 (fun H locs hP hS => ?_)
    rw [mid_set hA] at hP
    have hP : gP G (pre ++ (A ++ (.inl (G.2.2.1.2.1, 6, .inr (.inr (.inr (.inr (upF (fun k => G.1 + (h + (16 + 1 * k))) (i + 1)))))) :: acc B0 (fun i => [.inr (4, [.int 0, .int 0])]) (i + 1)))) H := by rw [← upF_up]; exact hP
    refine lv_iinc (v := nI (i + 1)) (lv' := [(1, .int (nI (i + 1))), (0, .ref (G.1 + h))]) hx hb dX1_init_89 hl (k := 0) rfl (by rw [ex, nI_succ]; rfl) (by decide) rfl (fun ls hl => ?_)
    refine lv_goto (tgt := 70) hx hb dX1_init_92 (by decide) ?_
    refine W.widen (k := 15 + 1 * (i + 1)) (n := 246 + 2 * (i + 1)) (by omega) (by omega) ?_
    exact ih (i + 1) _ _ _ _ (by omega) rfl hP hS hl
set_option maxHeartbeats 4000000 in
set_option maxRecDepth 100000 in
theorem lp_sheep (l : Launch) {p : Program} {e : Env} {s : State} {m : MethodId} {args : Array Value} {below : List Frame} {meth : Method} {c : Code} {G : Gm} {pre : List va_E} {h : Nat} {Q : State → Prop} (E_ : En p s m args meth c G yX1_init.cls cX1_init 2 (Cond.code yX1_init cX1_init 2 none)) (hh : pre.length = h) (A B0 : List va_E) (sf : List Value) (hA : A.length = 13) (hB0 : B0.length = 8) (h0 : A[0]? = some (.inr (1, sf))) (h3 : sf[4]? = some (.ref (G.1 + (h + 13))))
    (kk : ∀ (H : Heap) (locs : List Loc) (ls : Array Slot), gP G (pre ++ (A ++ (.inl (G.2.2.1.2.2.1, 7, .inr (.inr (.inr (.inr (fun i => some (G.1 + (h + 13 + 9 + i))))))) :: acc B0 (fun i => [.inr (5, [.int 0, .int 0, .int 0, .int 0, .int 0, .int 0])]) 7))) H → va_S (upA G) s.heap H locs → lv_has ls 2 [(0, .ref (G.1 + h))] → W p l e ({ frames := 3, cells := 28, slots := 300, locals := 192 } : Room) s m args below meth c H locs 28 300 Q (F0 m 122 ls [])) :
    ∀ (k i : Nat) (x : Int32) (H : Heap) (locs : List Loc) (ls : Array Slot), i + k = 7 → x = nI i → gP G (pre ++ (A ++ (.inl (G.2.2.1.2.2.1, 7, .inr (.inr (.inr (.inr (upF (fun k => G.1 + (h + (22 + 1 * k))) i))))) :: acc B0 (fun i => [.inr (5, [.int 0, .int 0, .int 0, .int 0, .int 0, .int 0])]) i))) H → va_S (upA G) s.heap H locs → lv_has ls 2 [(1, .int x), (0, .ref (G.1 + h))] → W p l e ({ frames := 3, cells := 28, slots := 300, locals := 192 } : Room) s m args below meth c H locs (21 + 1 * i) (258 + 6 * i) Q (F0 m 97 ls []) := by
  obtain ⟨hx, hb, hml, hown, hts, ht, hr, hlocks, hSt, hin⟩ := id E_
  intro k
  induction k with
  | zero =>
    intro i x H locs ls hk ex hP hS hl
    have hi : i = 7 := hk
    subst hi
    refine lv_iload_n hx hb dX1_init_97 rfl (lv_at hl 0 rfl) ?_
    refine lv_bipush (v := 7) hx hb dX1_init_98 (by decide) ?_
    refine lv_icmp_ge (tgt := 122) hx hb dX1_init_100 (by decide) (fun _ => ?_) (fun c_ => absurd (by rw [ex]; decide) c_)
    have hP := hP.refs (xs := A ++ (.inl (G.2.2.1.2.2.1, 7, .inr (.inr (.inr (.inr (upF (fun k => G.1 + (h + (22 + 1 * k))) 7))))) :: acc B0 (fun i => [.inr (5, [.int 0, .int 0, .int 0, .int 0, .int 0, .int 0])]) 7)) 13 (fun i => some (G.1 + (h + 13 + 9 + i))) (mid_at hA) (upF_at (g := (fun k => G.1 + (h + (22 + 1 * k)))) (n := 7) (fun i => by show _ = _; omega))
    rw [mid_set hA] at hP
    exact kk _ _ _ hP hS (lv_sub hl [1] rfl)
  | succ k ih =>
    intro i x H locs ls hk ex hP hS hl
    refine lv_iload_n hx hb dX1_init_97 rfl (lv_at hl 0 rfl) ?_
    refine lv_bipush (v := 7) hx hb dX1_init_98 (by decide) ?_
    refine lv_icmp_ge (tgt := 122) hx hb dX1_init_100 (by decide) (fun c_ => absurd c_ (by rw [ex]; exact nI_ge (a := i) (b := 7) (by omega) (by decide))) (fun _ => ?_)
    have hBl := acc_len (Z := (fun i => [.inr (5, [.int 0, .int 0, .int 0, .int 0, .int 0, .int 0])])) (st := 1) hB0 (fun _ => rfl) i
    have hlen : (A ++ (.inl (G.2.2.1.2.2.1, 7, .inr (.inr (.inr (.inr (upF (fun k => G.1 + (h + (22 + 1 * k))) i))))) :: acc B0 (fun i => [.inr (5, [.int 0, .int 0, .int 0, .int 0, .int 0, .int 0])]) i)).length = 22 + 1 * i := by rw [List.length_append, List.length_cons, hA, hBl]; omega
    refine lv_aload_n hx hb dX1_init_103 rfl (lv_at hl 1 rfl) ?_
    refine nw_get (xs := A ++ (.inl (G.2.2.1.2.2.1, 7, .inr (.inr (.inr (.inr (upF (fun k => G.1 + (h + (22 + 1 * k))) i))))) :: acc B0 (fun i => [.inr (5, [.int 0, .int 0, .int 0, .int 0, .int 0, .int 0])]) i)) (ci := 1) (v := .ref (G.1 + (h + 13))) (C := RX1) (T := TX1) (N := 9) hx hb ht inX1 hown hSt hh hP 0 (low_at h0) rfl 4 (by decide) (ht _ wf_RX1_35) h3 dX1_init_104 ?_
    refine lv_iload_n hx hb dX1_init_107 rfl (lv_at hl 0 rfl) ?_
    refine nw_new (xs := A ++ (.inl (G.2.2.1.2.2.1, 7, .inr (.inr (.inr (.inr (upF (fun k => G.1 + (h + (22 + 1 * k))) i))))) :: acc B0 (fun i => [.inr (5, [.int 0, .int 0, .int 0, .int 0, .int 0, .int 0])]) i)) (ci := 5) (fs := [.int 0, .int 0, .int 0, .int 0, .int 0, .int 0]) (C := RX5) (T := TX5) (N := 6) hx hb ht inX5 tyX5 tyX5_ok hown (ht _ wl_RX1_33) (ht _ wq_RX5) (ht _ wn_RX5) hSt hh hP hS rfl (fun j hj => by rcases (show j = 0 ∨ j = 1 ∨ j = 2 ∨ j = 3 ∨ j = 4 ∨ j = 5 by omega) with rfl | rfl | rfl | rfl | rfl | rfl <;> rfl) (22 + 1 * i) hlen (by show 21 + 1 * i + 1 ≤ 28; omega) (by show 258 + 6 * i + 6 ≤ 300; omega) dX1_init_108 (fun H hP hS => ?_)
    refine lv_dup hx hb dX1_init_111 rfl ?_
    refine nw_IN (host := "RaddleMarks") (pre := pre) (xs := A ++ (.inl (G.2.2.1.2.2.1, 7, .inr (.inr (.inr (.inr (upF (fun k => G.1 + (h + (22 + 1 * k))) i))))) :: acc B0 (fun i => [.inr (5, [.int 0, .int 0, .int 0, .int 0, .int 0, .int 0])]) i)) (As := []) (rest := [.ref (G.1 + (h + (22 + 1 * i))), .int x, .ref (G.1 + (h + 13))]) (n := 0) (mc := 0) (ms := 0) ⟨hx, hb, hml, hown, hts⟩ (cn_X5 l G (pre ++ (A ++ (.inl (G.2.2.1.2.2.1, 7, .inr (.inr (.inr (.inr (upF (fun k => G.1 + (h + (22 + 1 * k))) i))))) :: acc B0 (fun i => [.inr (5, [.int 0, .int 0, .int 0, .int 0, .int 0, .int 0])]) i))) (h + (22 + 1 * i)) (by rw [List.length_append, hh, hlen])) (by decide) wi_yX5_init wn_RX5 wc_yX5_init rfl (by decide) ⟨(Nat.le_of_ble_eq_true rfl), (Nat.le_of_ble_eq_true rfl)⟩ ⟨rfl, rfl⟩ hSt hP hS rfl hl.1 rfl (Nat.le_of_ble_eq_true rfl) dX1_init_112 ⟨(by show 21 + 1 * i + 1 + 0 ≤ 28; omega), (by show 258 + 6 * i + 6 + 0 ≤ 300; omega)⟩ (fun H locs hP hS => ?_)
    rw [List.append_assoc A, List.cons_append] at hP
    have hq : (A ++ (.inl (G.2.2.1.2.2.1, 7, .inr (.inr (.inr (.inr (upF (fun k => G.1 + (h + (22 + 1 * k))) i))))) :: (acc B0 (fun i => [.inr (5, [.int 0, .int 0, .int 0, .int 0, .int 0, .int 0])]) i ++ [.inr (5, [.int 0, .int 0, .int 0, .int 0, .int 0, .int 0])])))[22 + 1 * i]? = some (.inr (5, [.int 0, .int 0, .int 0, .int 0, .int 0, .int 0])) := last_at (by rw [hA, hBl]; omega)
    refine nw_aast (xs := A ++ (.inl (G.2.2.1.2.2.1, 7, .inr (.inr (.inr (.inr (upF (fun k => G.1 + (h + (22 + 1 * k))) i))))) :: (acc B0 (fun i => [.inr (5, [.int 0, .int 0, .int 0, .int 0, .int 0, .int 0])]) i ++ [.inr (5, [.int 0, .int 0, .int 0, .int 0, .int 0, .int 0])]))) hx hb hSt hh hP hS 13 2 (22 + 1 * i) 5 (mid_at hA) rfl hq rfl (by rw [ex]; exact vp_in_nI (by omega) (by decide)) i (by rw [ex]; exact nI_clamp (by omega)) dX1_init_115 (fun H locs hP hS => ?_)
    rw [mid_set hA] at hP
    have hP : gP G (pre ++ (A ++ (.inl (G.2.2.1.2.2.1, 7, .inr (.inr (.inr (.inr (upF (fun k => G.1 + (h + (22 + 1 * k))) (i + 1)))))) :: acc B0 (fun i => [.inr (5, [.int 0, .int 0, .int 0, .int 0, .int 0, .int 0])]) (i + 1)))) H := by rw [← upF_up]; exact hP
    refine lv_iinc (v := nI (i + 1)) (lv' := [(1, .int (nI (i + 1))), (0, .ref (G.1 + h))]) hx hb dX1_init_116 hl (k := 0) rfl (by rw [ex, nI_succ]; rfl) (by decide) rfl (fun ls hl => ?_)
    refine lv_goto (tgt := 97) hx hb dX1_init_119 (by decide) ?_
    refine W.widen (k := 21 + 1 * (i + 1)) (n := 258 + 6 * (i + 1)) (by omega) (by omega) ?_
    exact ih (i + 1) _ _ _ _ (by omega) rfl hP hS hl
def moorW (G : Gm) (h : Nat) : List va_E := ((.inr (1, [.ref (G.1 + (h + 1)), .ref (G.1 + (h + 6)), .ref (G.1 + (h + 11)), .ref (G.1 + (h + 12)), .ref (G.1 + (h + 13)), .ref (G.1 + (h + 14)), .int 0, .int 0, .int 0]) :: ((lawW G (h + 1) 99 ++ lawW G (h + 6) 1) ++ [.inl (G.2.2.1.1, 10, .inl (fun _ => 0))])) ++ [.inl (G.2.2.1.2.1, 6, .inr (.inr (.inr (.inr (fun i => some (G.1 + (h + 12 + 4 + i)))))))]) ++ (.inl (G.2.2.1.2.2.1, 7, .inr (.inr (.inr (.inr (fun i => some (G.1 + (h + 13 + 9 + i))))))) :: acc (acc (rowW G (h + 14) 7) (fun _ => [.inr (4, [.int 0, .int 0])]) 6) (fun _ => [.inr (5, [.int 0, .int 0, .int 0, .int 0, .int 0, .int 0])]) 7)
theorem split_1 (s a b : va_E) (T R : List va_E) : s :: (((T ++ [a]) ++ [b]) ++ R) = (s :: T) ++ (a :: ([b] ++ R)) := by simp
theorem split_2 (a b : va_E) (A R : List va_E) : A ++ (a :: ([b] ++ R)) = (A ++ [a]) ++ (b :: R) := by simp
set_option maxHeartbeats 4000000 in
set_option maxRecDepth 100000 in
theorem cn_X1 (l : Launch) (G : Gm) (pre : List va_E) (h : Nat) (hh : pre.length = h) : Cn l G yX1_init cX1_init 2 ({ frames := 3, cells := 28, slots := 300, locals := 192 } : Room) [.ref (G.1 + h)] (pre ++ [.inr (1, [.null, .null, .null, .null, .null, .null, .int 0, .int 0, .int 0])]) (pre ++ moorW G h) 28 300 := by
  refine cn_of (by decide) rfl (Nat.le_of_ble_eq_true rfl) ?_
  intro p e s m below meth c E_ ls H hl hP hS
  obtain ⟨hx, hb, hml, hown, hts, ht, hr, hlocks, hSt, hin⟩ := id E_
  have hl : lv_has ls 2 [(0, .ref (G.1 + h))] := hl
  refine lv_aload_n hx hb dX1_init_0 rfl (lv_at hl 0 rfl) ?_
  refine W.objInit hx hb hown (ht _ wm_RX1_3) (ht _ wi_objectInit) (ht _ wc_objectInit) rfl (by rw [hml]; exact hl.1) rfl dX1_init_1 (Nat.le_of_ble_eq_true rfl) (Nat.le_of_ble_eq_true rfl) ?_
  refine W.eq (g2 := F0 m 4 ls []) rfl ?_
  refine lv_aload_n hx hb dX1_init_4 rfl (lv_at hl 0 rfl) ?_
  refine nw_new (xs := [.inr (1, [.null, .null, .null, .null, .null, .null, .int 0, .int 0, .int 0])]) (ci := 0) (fs := [.int 0, .null, .null]) (C := RX0) (T := TX0) (N := 3) hx hb ht inX0 tyX0 tyX0_ok hown (ht _ wl_RX1_9) (ht _ wq_RX0) (ht _ wn_RX0) hSt hh hP hS rfl (fun j hj => by rcases (show j = 0 ∨ j = 1 ∨ j = 2 by omega) with rfl | rfl | rfl <;> rfl) 1 rfl (Nat.le_of_ble_eq_true rfl) (Nat.le_of_ble_eq_true rfl) dX1_init_5 (fun H hP hS => ?_)
  refine W.widen (k := 1) (n := 3) (by omega) (by omega) ?_
  refine lv_dup hx hb dX1_init_8 rfl ?_
  refine lv_bipush (v := 99) hx hb dX1_init_9 (by decide) ?_
  refine nw_I (pre := pre) (xs := [.inr (1, [.null, .null, .null, .null, .null, .null, .int 0, .int 0, .int 0])]) (As := [.int 99]) (rest := [.ref (G.1 + (h + 1)), .ref (G.1 + h)]) (n := 1) (mc := 4) (ms := 104) ⟨hx, hb, hml, hown, hts⟩ (cn_X0 l G (pre ++ [.inr (1, [.null, .null, .null, .null, .null, .null, .int 0, .int 0, .int 0])]) (h + 1) (by rw [List.length_append, hh]; rfl) 99) wm_RX1_11 wi_yX0_init wn_RX0 wc_yX0_init rfl (by decide) ⟨(Nat.le_of_ble_eq_true rfl), (Nat.le_of_ble_eq_true rfl)⟩ ⟨rfl, rfl⟩ hSt hP hS rfl hl.1 rfl (Nat.le_of_ble_eq_true rfl) dX1_init_11 ⟨(Nat.le_of_ble_eq_true rfl), (Nat.le_of_ble_eq_true rfl)⟩ (fun H locs hP hS => ?_)
  have hP : gP G (pre ++ (.inr (1, [.null, .null, .null, .null, .null, .null, .int 0, .int 0, .int 0]) :: lawW G (h + 1) 99)) H := hP
  refine W.widen (k := 5) (n := 107) (by omega) (by omega) ?_
  refine nw_putF (xs := (.inr (1, [.null, .null, .null, .null, .null, .null, .int 0, .int 0, .int 0]) :: lawW G (h + 1) 99)) (ci := 1) (v := .ref (G.1 + (h + 1))) (ty := .object "RaddleMarks$Law") (C := RX1) (T := TX1) (N := 9) hx hb ht inX1 tyX1 tyX1_ok nmX1 hown hSt hh hP hS 0 rfl rfl 0 (by decide) (ht _ wf_RX1_14) rfl hin rfl (by decide +kernel) rfl rfl (Nat.le_of_ble_eq_true rfl) dX1_init_14 (fun H locs hP hS => ?_)
  have hP : gP G (pre ++ (.inr (1, [.ref (G.1 + (h + 1)), .null, .null, .null, .null, .null, .int 0, .int 0, .int 0]) :: lawW G (h + 1) 99)) H := hP
  refine lv_aload_n hx hb dX1_init_17 rfl (lv_at hl 0 rfl) ?_
  refine nw_new (xs := (.inr (1, [.ref (G.1 + (h + 1)), .null, .null, .null, .null, .null, .int 0, .int 0, .int 0]) :: lawW G (h + 1) 99)) (ci := 0) (fs := [.int 0, .null, .null]) (C := RX0) (T := TX0) (N := 3) hx hb ht inX0 tyX0 tyX0_ok hown (ht _ wl_RX1_9) (ht _ wq_RX0) (ht _ wn_RX0) hSt hh hP hS rfl (fun j hj => by rcases (show j = 0 ∨ j = 1 ∨ j = 2 by omega) with rfl | rfl | rfl <;> rfl) 6 rfl (Nat.le_of_ble_eq_true rfl) (Nat.le_of_ble_eq_true rfl) dX1_init_18 (fun H hP hS => ?_)
  refine W.widen (k := 6) (n := 110) (by omega) (by omega) ?_
  refine lv_dup hx hb dX1_init_21 rfl ?_
  refine lv_iconst (v := 1) hx hb dX1_init_22 (by decide) ?_
  refine nw_I (pre := pre) (xs := (.inr (1, [.ref (G.1 + (h + 1)), .null, .null, .null, .null, .null, .int 0, .int 0, .int 0]) :: lawW G (h + 1) 99)) (As := [.int 1]) (rest := [.ref (G.1 + (h + 6)), .ref (G.1 + h)]) (n := 1) (mc := 4) (ms := 104) ⟨hx, hb, hml, hown, hts⟩ (cn_X0 l G (pre ++ (.inr (1, [.ref (G.1 + (h + 1)), .null, .null, .null, .null, .null, .int 0, .int 0, .int 0]) :: lawW G (h + 1) 99)) (h + 6) (by rw [List.length_append, hh]; rfl) 1) wm_RX1_11 wi_yX0_init wn_RX0 wc_yX0_init rfl (by decide) ⟨(Nat.le_of_ble_eq_true rfl), (Nat.le_of_ble_eq_true rfl)⟩ ⟨rfl, rfl⟩ hSt hP hS rfl hl.1 rfl (Nat.le_of_ble_eq_true rfl) dX1_init_23 ⟨(Nat.le_of_ble_eq_true rfl), (Nat.le_of_ble_eq_true rfl)⟩ (fun H locs hP hS => ?_)
  have hP : gP G (pre ++ (.inr (1, [.ref (G.1 + (h + 1)), .null, .null, .null, .null, .null, .int 0, .int 0, .int 0]) :: (lawW G (h + 1) 99 ++ lawW G (h + 6) 1))) H := hP
  refine W.widen (k := 10) (n := 214) (by omega) (by omega) ?_
  refine nw_putF (xs := (.inr (1, [.ref (G.1 + (h + 1)), .null, .null, .null, .null, .null, .int 0, .int 0, .int 0]) :: (lawW G (h + 1) 99 ++ lawW G (h + 6) 1))) (ci := 1) (v := .ref (G.1 + (h + 6))) (ty := .object "RaddleMarks$Law") (C := RX1) (T := TX1) (N := 9) hx hb ht inX1 tyX1 tyX1_ok nmX1 hown hSt hh hP hS 0 rfl rfl 1 (by decide) (ht _ wf_RX1_20) rfl hin rfl (by decide +kernel) rfl rfl (Nat.le_of_ble_eq_true rfl) dX1_init_26 (fun H locs hP hS => ?_)
  have hP : gP G (pre ++ (.inr (1, [.ref (G.1 + (h + 1)), .ref (G.1 + (h + 6)), .null, .null, .null, .null, .int 0, .int 0, .int 0]) :: (lawW G (h + 1) 99 ++ lawW G (h + 6) 1))) H := hP
  refine lv_aload_n hx hb dX1_init_29 rfl (lv_at hl 0 rfl) ?_
  refine lv_bipush (v := 10) hx hb dX1_init_30 (by decide) ?_
  refine nw_newa (xs := (.inr (1, [.ref (G.1 + (h + 1)), .ref (G.1 + (h + 6)), .null, .null, .null, .null, .int 0, .int 0, .int 0]) :: (lawW G (h + 1) 99 ++ lawW G (h + 6) 1))) (N := 10) hx hb ht hSt hh hP hS (by decide) 11 rfl (Nat.le_of_ble_eq_true rfl) (Nat.le_of_ble_eq_true rfl) dX1_init_32 (fun H hP hS => ?_)
  have hP : gP G (pre ++ (.inr (1, [.ref (G.1 + (h + 1)), .ref (G.1 + (h + 6)), .null, .null, .null, .null, .int 0, .int 0, .int 0]) :: ((lawW G (h + 1) 99 ++ lawW G (h + 6) 1) ++ [.inl (G.2.2.1.1, 10, .inl (fun _ => 0))]))) H := hP
  refine W.widen (k := 11) (n := 224) (by omega) (by omega) ?_
  refine nw_putF (xs := (.inr (1, [.ref (G.1 + (h + 1)), .ref (G.1 + (h + 6)), .null, .null, .null, .null, .int 0, .int 0, .int 0]) :: ((lawW G (h + 1) 99 ++ lawW G (h + 6) 1) ++ [.inl (G.2.2.1.1, 10, .inl (fun _ => 0))]))) (ci := 1) (v := .ref (G.1 + (h + 11))) (ty := .array .int) (C := RX1) (T := TX1) (N := 9) hx hb ht inX1 tyX1 tyX1_ok nmX1 hown hSt hh hP hS 0 rfl rfl 2 (by decide) (ht _ wf_RX1_23) rfl hin rfl (by decide +kernel) rfl rfl (Nat.le_of_ble_eq_true rfl) dX1_init_34 (fun H locs hP hS => ?_)
  have hP : gP G (pre ++ (.inr (1, [.ref (G.1 + (h + 1)), .ref (G.1 + (h + 6)), .ref (G.1 + (h + 11)), .null, .null, .null, .int 0, .int 0, .int 0]) :: ((lawW G (h + 1) 99 ++ lawW G (h + 6) 1) ++ [.inl (G.2.2.1.1, 10, .inl (fun _ => 0))]))) H := hP
  refine lv_aload_n hx hb dX1_init_37 rfl (lv_at hl 0 rfl) ?_
  refine lv_bipush (v := 6) hx hb dX1_init_38 (by decide) ?_
  refine nw_newq (xs := (.inr (1, [.ref (G.1 + (h + 1)), .ref (G.1 + (h + 6)), .ref (G.1 + (h + 11)), .null, .null, .null, .int 0, .int 0, .int 0]) :: ((lawW G (h + 1) 99 ++ lawW G (h + 6) 1) ++ [.inl (G.2.2.1.1, 10, .inl (fun _ => 0))]))) (cA := G.2.2.1.2.1) (N := 6) hx hb hown (ht _ wl_RX1_27) hSt.2.1 hSt 1 rfl hh hP hS (by decide) 12 rfl (Nat.le_of_ble_eq_true rfl) (Nat.le_of_ble_eq_true rfl) dX1_init_40 (fun H hP hS => ?_)
  have hP : gP G (pre ++ (.inr (1, [.ref (G.1 + (h + 1)), .ref (G.1 + (h + 6)), .ref (G.1 + (h + 11)), .null, .null, .null, .int 0, .int 0, .int 0]) :: (((lawW G (h + 1) 99 ++ lawW G (h + 6) 1) ++ [.inl (G.2.2.1.1, 10, .inl (fun _ => 0))]) ++ [.inl (G.2.2.1.2.1, 6, .inr (.inr (.inr (.inr (fun _ => none)))))]))) H := hP
  refine W.widen (k := 12) (n := 230) (by omega) (by omega) ?_
  refine nw_putF (xs := (.inr (1, [.ref (G.1 + (h + 1)), .ref (G.1 + (h + 6)), .ref (G.1 + (h + 11)), .null, .null, .null, .int 0, .int 0, .int 0]) :: (((lawW G (h + 1) 99 ++ lawW G (h + 6) 1) ++ [.inl (G.2.2.1.1, 10, .inl (fun _ => 0))]) ++ [.inl (G.2.2.1.2.1, 6, .inr (.inr (.inr (.inr (fun _ => none)))))]))) (ci := 1) (v := .ref (G.1 + (h + 12))) (ty := .array (.object "RaddleMarks$Seeker")) (C := RX1) (T := TX1) (N := 9) hx hb ht inX1 tyX1 tyX1_ok nmX1 hown hSt hh hP hS 0 rfl rfl 3 (by decide) (ht _ wf_RX1_29) rfl hin rfl (by decide +kernel) rfl rfl (Nat.le_of_ble_eq_true rfl) dX1_init_43 (fun H locs hP hS => ?_)
  have hP : gP G (pre ++ (.inr (1, [.ref (G.1 + (h + 1)), .ref (G.1 + (h + 6)), .ref (G.1 + (h + 11)), .ref (G.1 + (h + 12)), .null, .null, .int 0, .int 0, .int 0]) :: (((lawW G (h + 1) 99 ++ lawW G (h + 6) 1) ++ [.inl (G.2.2.1.1, 10, .inl (fun _ => 0))]) ++ [.inl (G.2.2.1.2.1, 6, .inr (.inr (.inr (.inr (fun _ => none)))))]))) H := hP
  refine lv_aload_n hx hb dX1_init_46 rfl (lv_at hl 0 rfl) ?_
  refine lv_bipush (v := 7) hx hb dX1_init_47 (by decide) ?_
  refine nw_newq (xs := (.inr (1, [.ref (G.1 + (h + 1)), .ref (G.1 + (h + 6)), .ref (G.1 + (h + 11)), .ref (G.1 + (h + 12)), .null, .null, .int 0, .int 0, .int 0]) :: (((lawW G (h + 1) 99 ++ lawW G (h + 6) 1) ++ [.inl (G.2.2.1.1, 10, .inl (fun _ => 0))]) ++ [.inl (G.2.2.1.2.1, 6, .inr (.inr (.inr (.inr (fun _ => none)))))]))) (cA := G.2.2.1.2.2.1) (N := 7) hx hb hown (ht _ wl_RX1_33) hSt.2.2.1 hSt 2 rfl hh hP hS (by decide) 13 rfl (Nat.le_of_ble_eq_true rfl) (Nat.le_of_ble_eq_true rfl) dX1_init_49 (fun H hP hS => ?_)
  have hP : gP G (pre ++ (.inr (1, [.ref (G.1 + (h + 1)), .ref (G.1 + (h + 6)), .ref (G.1 + (h + 11)), .ref (G.1 + (h + 12)), .null, .null, .int 0, .int 0, .int 0]) :: ((((lawW G (h + 1) 99 ++ lawW G (h + 6) 1) ++ [.inl (G.2.2.1.1, 10, .inl (fun _ => 0))]) ++ [.inl (G.2.2.1.2.1, 6, .inr (.inr (.inr (.inr (fun _ => none)))))]) ++ [.inl (G.2.2.1.2.2.1, 7, .inr (.inr (.inr (.inr (fun _ => none)))))]))) H := hP
  refine W.widen (k := 13) (n := 237) (by omega) (by omega) ?_
  refine nw_putF (xs := (.inr (1, [.ref (G.1 + (h + 1)), .ref (G.1 + (h + 6)), .ref (G.1 + (h + 11)), .ref (G.1 + (h + 12)), .null, .null, .int 0, .int 0, .int 0]) :: ((((lawW G (h + 1) 99 ++ lawW G (h + 6) 1) ++ [.inl (G.2.2.1.1, 10, .inl (fun _ => 0))]) ++ [.inl (G.2.2.1.2.1, 6, .inr (.inr (.inr (.inr (fun _ => none)))))]) ++ [.inl (G.2.2.1.2.2.1, 7, .inr (.inr (.inr (.inr (fun _ => none)))))]))) (ci := 1) (v := .ref (G.1 + (h + 13))) (ty := .array (.object "RaddleMarks$Sheep")) (C := RX1) (T := TX1) (N := 9) hx hb ht inX1 tyX1 tyX1_ok nmX1 hown hSt hh hP hS 0 rfl rfl 4 (by decide) (ht _ wf_RX1_35) rfl hin rfl (by decide +kernel) rfl rfl (Nat.le_of_ble_eq_true rfl) dX1_init_52 (fun H locs hP hS => ?_)
  have hP : gP G (pre ++ (.inr (1, [.ref (G.1 + (h + 1)), .ref (G.1 + (h + 6)), .ref (G.1 + (h + 11)), .ref (G.1 + (h + 12)), .ref (G.1 + (h + 13)), .null, .int 0, .int 0, .int 0]) :: ((((lawW G (h + 1) 99 ++ lawW G (h + 6) 1) ++ [.inl (G.2.2.1.1, 10, .inl (fun _ => 0))]) ++ [.inl (G.2.2.1.2.1, 6, .inr (.inr (.inr (.inr (fun _ => none)))))]) ++ [.inl (G.2.2.1.2.2.1, 7, .inr (.inr (.inr (.inr (fun _ => none)))))]))) H := hP
  refine lv_aload_n hx hb dX1_init_55 rfl (lv_at hl 0 rfl) ?_
  refine nw_new (xs := (.inr (1, [.ref (G.1 + (h + 1)), .ref (G.1 + (h + 6)), .ref (G.1 + (h + 11)), .ref (G.1 + (h + 12)), .ref (G.1 + (h + 13)), .null, .int 0, .int 0, .int 0]) :: ((((lawW G (h + 1) 99 ++ lawW G (h + 6) 1) ++ [.inl (G.2.2.1.1, 10, .inl (fun _ => 0))]) ++ [.inl (G.2.2.1.2.1, 6, .inr (.inr (.inr (.inr (fun _ => none)))))]) ++ [.inl (G.2.2.1.2.2.1, 7, .inr (.inr (.inr (.inr (fun _ => none)))))]))) (ci := 3) (fs := [.null, .int 0]) (C := RX3) (T := TX3) (N := 2) hx hb ht inX3 tyX3 tyX3_ok hown (ht _ wl_RX1_39) (ht _ wq_RX3) (ht _ wn_RX3) hSt hh hP hS rfl (fun j hj => by rcases (show j = 0 ∨ j = 1 by omega) with rfl | rfl <;> rfl) 14 rfl (Nat.le_of_ble_eq_true rfl) (Nat.le_of_ble_eq_true rfl) dX1_init_56 (fun H hP hS => ?_)
  refine W.widen (k := 14) (n := 239) (by omega) (by omega) ?_
  refine lv_dup hx hb dX1_init_59 rfl ?_
  refine lv_bipush (v := 7) hx hb dX1_init_60 (by decide) ?_
  refine nw_I (pre := pre) (xs := (.inr (1, [.ref (G.1 + (h + 1)), .ref (G.1 + (h + 6)), .ref (G.1 + (h + 11)), .ref (G.1 + (h + 12)), .ref (G.1 + (h + 13)), .null, .int 0, .int 0, .int 0]) :: ((((lawW G (h + 1) 99 ++ lawW G (h + 6) 1) ++ [.inl (G.2.2.1.1, 10, .inl (fun _ => 0))]) ++ [.inl (G.2.2.1.2.1, 6, .inr (.inr (.inr (.inr (fun _ => none)))))]) ++ [.inl (G.2.2.1.2.2.1, 7, .inr (.inr (.inr (.inr (fun _ => none)))))]))) (As := [.int 7]) (rest := [.ref (G.1 + (h + 14)), .ref (G.1 + h)]) (n := 1) (mc := 1) (ms := 7) ⟨hx, hb, hml, hown, hts⟩ (cn_X3 l G (pre ++ (.inr (1, [.ref (G.1 + (h + 1)), .ref (G.1 + (h + 6)), .ref (G.1 + (h + 11)), .ref (G.1 + (h + 12)), .ref (G.1 + (h + 13)), .null, .int 0, .int 0, .int 0]) :: ((((lawW G (h + 1) 99 ++ lawW G (h + 6) 1) ++ [.inl (G.2.2.1.1, 10, .inl (fun _ => 0))]) ++ [.inl (G.2.2.1.2.1, 6, .inr (.inr (.inr (.inr (fun _ => none)))))]) ++ [.inl (G.2.2.1.2.2.1, 7, .inr (.inr (.inr (.inr (fun _ => none)))))]))) (h + 14) (by rw [List.length_append, hh]; rfl) 7 7 (by decide)) wm_RX1_41 wi_yX3_init wn_RX3 wc_yX3_init rfl (by decide) ⟨(Nat.le_of_ble_eq_true rfl), (Nat.le_of_ble_eq_true rfl)⟩ ⟨rfl, rfl⟩ hSt hP hS rfl hl.1 rfl (Nat.le_of_ble_eq_true rfl) dX1_init_62 ⟨(Nat.le_of_ble_eq_true rfl), (Nat.le_of_ble_eq_true rfl)⟩ (fun H locs hP hS => ?_)
  have hP : gP G (pre ++ (.inr (1, [.ref (G.1 + (h + 1)), .ref (G.1 + (h + 6)), .ref (G.1 + (h + 11)), .ref (G.1 + (h + 12)), .ref (G.1 + (h + 13)), .null, .int 0, .int 0, .int 0]) :: (((((lawW G (h + 1) 99 ++ lawW G (h + 6) 1) ++ [.inl (G.2.2.1.1, 10, .inl (fun _ => 0))]) ++ [.inl (G.2.2.1.2.1, 6, .inr (.inr (.inr (.inr (fun _ => none)))))]) ++ [.inl (G.2.2.1.2.2.1, 7, .inr (.inr (.inr (.inr (fun _ => none)))))]) ++ rowW G (h + 14) 7))) H := hP
  refine W.widen (k := 15) (n := 246) (by omega) (by omega) ?_
  refine nw_putF (xs := (.inr (1, [.ref (G.1 + (h + 1)), .ref (G.1 + (h + 6)), .ref (G.1 + (h + 11)), .ref (G.1 + (h + 12)), .ref (G.1 + (h + 13)), .null, .int 0, .int 0, .int 0]) :: (((((lawW G (h + 1) 99 ++ lawW G (h + 6) 1) ++ [.inl (G.2.2.1.1, 10, .inl (fun _ => 0))]) ++ [.inl (G.2.2.1.2.1, 6, .inr (.inr (.inr (.inr (fun _ => none)))))]) ++ [.inl (G.2.2.1.2.2.1, 7, .inr (.inr (.inr (.inr (fun _ => none)))))]) ++ rowW G (h + 14) 7))) (ci := 1) (v := .ref (G.1 + (h + 14))) (ty := .object "RaddleMarks$Row") (C := RX1) (T := TX1) (N := 9) hx hb ht inX1 tyX1 tyX1_ok nmX1 hown hSt hh hP hS 0 rfl rfl 5 (by decide) (ht _ wf_RX1_42) rfl hin rfl (by decide +kernel) rfl rfl (Nat.le_of_ble_eq_true rfl) dX1_init_65 (fun H locs hP hS => ?_)
  have hP : gP G (pre ++ (.inr (1, [.ref (G.1 + (h + 1)), .ref (G.1 + (h + 6)), .ref (G.1 + (h + 11)), .ref (G.1 + (h + 12)), .ref (G.1 + (h + 13)), .ref (G.1 + (h + 14)), .int 0, .int 0, .int 0]) :: (((((lawW G (h + 1) 99 ++ lawW G (h + 6) 1) ++ [.inl (G.2.2.1.1, 10, .inl (fun _ => 0))]) ++ [.inl (G.2.2.1.2.1, 6, .inr (.inr (.inr (.inr (fun _ => none)))))]) ++ [.inl (G.2.2.1.2.2.1, 7, .inr (.inr (.inr (.inr (fun _ => none)))))]) ++ rowW G (h + 14) 7))) H := hP
  refine lv_iconst (v := 0) hx hb dX1_init_68 (by decide) ?_
  refine lv_istore_n (lv' := [(1, .int 0), (0, .ref (G.1 + h))]) hx hb dX1_init_69 rfl hl (by decide) rfl (fun ls hl => ?_)
  rw [split_1] at hP
  have hP : gP G (pre ++ ((.inr (1, [.ref (G.1 + (h + 1)), .ref (G.1 + (h + 6)), .ref (G.1 + (h + 11)), .ref (G.1 + (h + 12)), .ref (G.1 + (h + 13)), .ref (G.1 + (h + 14)), .int 0, .int 0, .int 0]) :: ((lawW G (h + 1) 99 ++ lawW G (h + 6) 1) ++ [.inl (G.2.2.1.1, 10, .inl (fun _ => 0))])) ++ (.inl (G.2.2.1.2.1, 6, .inr (.inr (.inr (.inr (upF (fun k => G.1 + (h + (16 + 1 * k))) 0))))) :: acc ([.inl (G.2.2.1.2.2.1, 7, .inr (.inr (.inr (.inr (fun _ => none)))))] ++ rowW G (h + 14) 7) (fun _ => [.inr (4, [.int 0, .int 0])]) 0))) H := by rw [upF_0]; exact hP
  refine lp_seekers l E_ hh (.inr (1, [.ref (G.1 + (h + 1)), .ref (G.1 + (h + 6)), .ref (G.1 + (h + 11)), .ref (G.1 + (h + 12)), .ref (G.1 + (h + 13)), .ref (G.1 + (h + 14)), .int 0, .int 0, .int 0]) :: ((lawW G (h + 1) 99 ++ lawW G (h + 6) 1) ++ [.inl (G.2.2.1.1, 10, .inl (fun _ => 0))])) ([.inl (G.2.2.1.2.2.1, 7, .inr (.inr (.inr (.inr (fun _ => none)))))] ++ rowW G (h + 14) 7) _ rfl rfl rfl rfl (fun H locs ls hP hS hl => ?_) 6 0 0 _ _ _ rfl rfl hP hS hl
  rw [acc_app, split_2] at hP
  refine lv_iconst (v := 0) hx hb dX1_init_95 (by decide) ?_
  refine lv_istore_n (lv' := [(1, .int 0), (0, .ref (G.1 + h))]) hx hb dX1_init_96 rfl hl (by decide) rfl (fun ls hl => ?_)
  have hP : gP G (pre ++ (((.inr (1, [.ref (G.1 + (h + 1)), .ref (G.1 + (h + 6)), .ref (G.1 + (h + 11)), .ref (G.1 + (h + 12)), .ref (G.1 + (h + 13)), .ref (G.1 + (h + 14)), .int 0, .int 0, .int 0]) :: ((lawW G (h + 1) 99 ++ lawW G (h + 6) 1) ++ [.inl (G.2.2.1.1, 10, .inl (fun _ => 0))])) ++ [.inl (G.2.2.1.2.1, 6, .inr (.inr (.inr (.inr (fun i => some (G.1 + (h + 12 + 4 + i)))))))]) ++ (.inl (G.2.2.1.2.2.1, 7, .inr (.inr (.inr (.inr (upF (fun k => G.1 + (h + (22 + 1 * k))) 0))))) :: acc (acc (rowW G (h + 14) 7) (fun _ => [.inr (4, [.int 0, .int 0])]) 6) (fun _ => [.inr (5, [.int 0, .int 0, .int 0, .int 0, .int 0, .int 0])]) 0))) H := by rw [upF_0]; exact hP
  refine lp_sheep l E_ hh ((.inr (1, [.ref (G.1 + (h + 1)), .ref (G.1 + (h + 6)), .ref (G.1 + (h + 11)), .ref (G.1 + (h + 12)), .ref (G.1 + (h + 13)), .ref (G.1 + (h + 14)), .int 0, .int 0, .int 0]) :: ((lawW G (h + 1) 99 ++ lawW G (h + 6) 1) ++ [.inl (G.2.2.1.1, 10, .inl (fun _ => 0))])) ++ [.inl (G.2.2.1.2.1, 6, .inr (.inr (.inr (.inr (fun i => some (G.1 + (h + 12 + 4 + i)))))))]) (acc (rowW G (h + 14) 7) (fun _ => [.inr (4, [.int 0, .int 0])]) 6) _ rfl rfl rfl rfl (fun H locs ls hP hS hl => ?_) 7 0 0 _ _ _ rfl rfl hP hS hl
  have hP : gP G (pre ++ moorW G h) H := hP
  exact W.vret hx hb hr (nw_end hP hSt hS) hS.2.2 dX1_init_122
