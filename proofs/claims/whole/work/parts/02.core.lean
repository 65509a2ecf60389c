def R_law : String := "RaddleMarksLaw"
abbrev Mem : Type := Nat → Nat → Int32
def mu (M : Mem) (a k : Nat) (v : Int32) : Mem := fun b j => if b = a ∧ j = k then v else M b j
def mcp (M : Mem) (a sp d dp n : Nat) : Mem := fun b j => if b = d ∧ (dp ≤ j ∧ j < dp + n) then M a (sp + (j - dp)) else M b j
theorem mu_ne {M : Mem} {a k j : Nat} {v : Int32} (h : j ≠ a) : mu M a k v j = M j := by
  funext i
  simp [mu, h]
theorem mu_same {M : Mem} {a k : Nat} {v : Int32} : mu M a k v a = upd (M a) k v := by
  funext i
  simp [mu, upd]
theorem mcp_ne {M : Mem} {a sp d dp n j : Nat} (h : j ≠ d) : mcp M a sp d dp n j = M j := by
  funext i
  simp [mcp, h]
theorem mcp_same {M : Mem} {a sp d dp n : Nat} : mcp M a sp d dp n d = va_cpy (M a) (M d) sp dp n := by
  funext i
  simp [mcp, va_cpy]
/-- base, class numbers and slots, array classes, the three tables -/
abbrev Gm : Type := Nat × va_G × (ClassId × ClassId × ClassId × ClassId) × (Nat × Nat × Nat)
def kdL : List Nat := [9, 8, 1, 0, 3, 11, 3, 11, 0, 3, 11, 3, 11, 11, 12, 13, 3, 11, 4, 4, 4, 4, 4, 4, 5, 5, 5, 5, 5, 5, 5, 3, 11, 3, 11, 8, 1, 0, 3, 11, 3, 11, 0, 3, 11, 3, 11, 11, 12, 13, 3, 11, 4, 4, 4, 4, 4, 4, 5, 5, 5, 5, 5, 5, 5, 3, 11, 3, 11, 1, 0, 3, 11, 3, 11, 0, 3, 11, 3, 11, 11, 12, 13, 3, 11, 4, 4, 4, 4, 4, 4, 5, 5, 5, 5, 5, 5, 5, 2, 3, 11, 3, 11, 7, 3, 11, 14, 11, 6, 3, 11, 6, 3, 11, 6, 3, 11, 6, 3, 11, 10, 11, 11, 11, 11, 11, 11, 11, 11, 11, 11, 11, 11, 11]
def lnL : List Nat := [0, 0, 0, 0, 0, 50, 0, 50, 0, 0, 50, 0, 50, 10, 6, 7, 0, 7, 0, 0, 0, 0, 0, 0, 0, 0, 0, 0, 0, 0, 0, 0, 50, 0, 20, 0, 0, 0, 0, 50, 0, 50, 0, 0, 50, 0, 50, 10, 6, 7, 0, 7, 0, 0, 0, 0, 0, 0, 0, 0, 0, 0, 0, 0, 0, 0, 50, 0, 20, 0, 0, 0, 50, 0, 50, 0, 0, 50, 0, 50, 10, 6, 7, 0, 7, 0, 0, 0, 0, 0, 0, 0, 0, 0, 0, 0, 0, 0, 0, 0, 50, 0, 50, 0, 0, 40, 4, 6, 0, 0, 40, 0, 0, 40, 0, 0, 40, 0, 0, 40, 0, 242, 242, 242, 6, 50, 50, 3, 6, 4, 4, 160, 40, 40]
def kdT (i : Nat) : Nat := kdL.getD i 99
def lnT (i : Nat) : Nat := lnL.getD i 0
abbrev nW : Nat := 134
theorem kd_lt {h k : Nat} (hk : kdT h = k) (h9 : k ≠ 99) : h < nW := by
  rcases Nat.lt_or_ge h nW with q | q
  · exact q
  · refine absurd (hk.symm.trans ?_) h9
    rw [kdT, List.getD_eq_getElem?_getD, List.getElem?_eq_none (show kdL.length ≤ h from q)]
    rfl
def mkR (G : Gm) (r : Nat → Int32) (h : Nat) : va_E := match kdT h with
  | 0 => .inr (0, [.int (r 0), .ref (G.1 + (h + 1)), .ref (G.1 + (h + 3))])
  | 1 => .inr (1, [.ref (G.1 + (h + 1)), .ref (G.1 + (h + 6)), .ref (G.1 + (h + 11)), .ref (G.1 + (h + 12)), .ref (G.1 + (h + 13)), .ref (G.1 + (h + 14)), .int (r 6), .int (r 7), .int (r 8)])
  | 2 => .inr (2, [.ref (G.1 + (h + 1)), .ref (G.1 + (h + 3)), .int (r 2), .int (r 3)])
  | 3 => .inr (3, [.ref (G.1 + (h + 1)), .int (r 1)])
  | 4 => .inr (4, [.int (r 0), .int (r 1)])
  | 5 => .inr (5, [.int (r 0), .int (r 1), .int (r 2), .int (r 3), .int (r 4), .int (r 5)])
  | 6 => .inr (6, [.ref (G.1 + (h + 1)), .int (r 1)])
  | 7 => .inr (7, [.ref (G.1 + (h + 1)), .int (r 1), .int (r 2), .int (r 3)])
  | 8 => .inr (8, [.ref (G.1 + (h + 1)), .ref (G.1 + (h + 30)), .ref (G.1 + (h + 32)), .int (r 3)])
  | 9 => .inr (9, [.ref (G.1 + (h + 1)), .ref (G.1 + (h + 35)), .ref (G.1 + (h + 69)), .ref (G.1 + (h + 98)), .ref (G.1 + (h + 103)), .ref (G.1 + (h + 106)), .ref (G.1 + (h + 107)), .int (r 7)])
  | 10 => .inr (10, [.ref (G.1 + (h + 1)), .ref (G.1 + (h + 2)), .ref (G.1 + (h + 3)), .int (r 3), .int (r 4), .ref (G.1 + (h + 4)), .int (r 6), .int (r 7), .int (r 8), .int (r 9), .int (r 10), .int (r 11), .ref (G.1 + (h + 5)), .ref (G.1 + (h + 6)), .ref (G.1 + (h + 7)), .ref (G.1 + (h + 8)), .ref (G.1 + (h + 9)), .ref (G.1 + (h + 10)), .ref (G.1 + (h + 11)), .ref (G.1 + (h + 12)), .ref (G.1 + (h + 13)), .int (r 21), .int (r 22), .int (r 23), .int (r 24)])
  | 11 => .inl (G.2.2.1.1, lnT h, .inl r)
  | 12 => .inl (G.2.2.1.2.1, lnT h, .inr (.inr (.inr (.inr (fun i => some (G.1 + (h + 4 + i)))))))
  | 13 => .inl (G.2.2.1.2.2.1, lnT h, .inr (.inr (.inr (.inr (fun i => some (G.1 + (h + 9 + i)))))))
  | 14 => .inl (G.2.2.1.2.2.2, lnT h, .inr (.inr (.inr (.inr (fun i => some (G.1 + (h + 2 + 3 * i)))))))
  | _ => .inr (99, [])
def mkE (G : Gm) (M : Mem) (h : Nat) : va_E := mkR G (M h) h
theorem mk0 {G : Gm} {M : Mem} {h : Nat} (k : kdT h = 0) : mkE G M h = .inr (0, [.int (M h 0), .ref (G.1 + (h + 1)), .ref (G.1 + (h + 3))]) := by simp only [mkE, mkR, k]
theorem mk1 {G : Gm} {M : Mem} {h : Nat} (k : kdT h = 1) : mkE G M h = .inr (1, [.ref (G.1 + (h + 1)), .ref (G.1 + (h + 6)), .ref (G.1 + (h + 11)), .ref (G.1 + (h + 12)), .ref (G.1 + (h + 13)), .ref (G.1 + (h + 14)), .int (M h 6), .int (M h 7), .int (M h 8)]) := by simp only [mkE, mkR, k]
theorem mk2 {G : Gm} {M : Mem} {h : Nat} (k : kdT h = 2) : mkE G M h = .inr (2, [.ref (G.1 + (h + 1)), .ref (G.1 + (h + 3)), .int (M h 2), .int (M h 3)]) := by simp only [mkE, mkR, k]
theorem mk3 {G : Gm} {M : Mem} {h : Nat} (k : kdT h = 3) : mkE G M h = .inr (3, [.ref (G.1 + (h + 1)), .int (M h 1)]) := by simp only [mkE, mkR, k]
theorem mk4 {G : Gm} {M : Mem} {h : Nat} (k : kdT h = 4) : mkE G M h = .inr (4, [.int (M h 0), .int (M h 1)]) := by simp only [mkE, mkR, k]
theorem mk5 {G : Gm} {M : Mem} {h : Nat} (k : kdT h = 5) : mkE G M h = .inr (5, [.int (M h 0), .int (M h 1), .int (M h 2), .int (M h 3), .int (M h 4), .int (M h 5)]) := by simp only [mkE, mkR, k]
theorem mk6 {G : Gm} {M : Mem} {h : Nat} (k : kdT h = 6) : mkE G M h = .inr (6, [.ref (G.1 + (h + 1)), .int (M h 1)]) := by simp only [mkE, mkR, k]
theorem mk7 {G : Gm} {M : Mem} {h : Nat} (k : kdT h = 7) : mkE G M h = .inr (7, [.ref (G.1 + (h + 1)), .int (M h 1), .int (M h 2), .int (M h 3)]) := by simp only [mkE, mkR, k]
theorem mk8 {G : Gm} {M : Mem} {h : Nat} (k : kdT h = 8) : mkE G M h = .inr (8, [.ref (G.1 + (h + 1)), .ref (G.1 + (h + 30)), .ref (G.1 + (h + 32)), .int (M h 3)]) := by simp only [mkE, mkR, k]
theorem mk9 {G : Gm} {M : Mem} {h : Nat} (k : kdT h = 9) : mkE G M h = .inr (9, [.ref (G.1 + (h + 1)), .ref (G.1 + (h + 35)), .ref (G.1 + (h + 69)), .ref (G.1 + (h + 98)), .ref (G.1 + (h + 103)), .ref (G.1 + (h + 106)), .ref (G.1 + (h + 107)), .int (M h 7)]) := by simp only [mkE, mkR, k]
theorem mk10 {G : Gm} {M : Mem} {h : Nat} (k : kdT h = 10) : mkE G M h = .inr (10, [.ref (G.1 + (h + 1)), .ref (G.1 + (h + 2)), .ref (G.1 + (h + 3)), .int (M h 3), .int (M h 4), .ref (G.1 + (h + 4)), .int (M h 6), .int (M h 7), .int (M h 8), .int (M h 9), .int (M h 10), .int (M h 11), .ref (G.1 + (h + 5)), .ref (G.1 + (h + 6)), .ref (G.1 + (h + 7)), .ref (G.1 + (h + 8)), .ref (G.1 + (h + 9)), .ref (G.1 + (h + 10)), .ref (G.1 + (h + 11)), .ref (G.1 + (h + 12)), .ref (G.1 + (h + 13)), .int (M h 21), .int (M h 22), .int (M h 23), .int (M h 24)]) := by simp only [mkE, mkR, k]
theorem mk11 {G : Gm} {M : Mem} {h : Nat} (k : kdT h = 11) : mkE G M h = .inl (G.2.2.1.1, lnT h, .inl (M h)) := by simp only [mkE, mkR, k]
theorem mk12 {G : Gm} {M : Mem} {h : Nat} (k : kdT h = 12) : mkE G M h = .inl (G.2.2.1.2.1, lnT h, .inr (.inr (.inr (.inr (fun i => some (G.1 + (h + 4 + i))))))) := by simp only [mkE, mkR, k]
theorem mk13 {G : Gm} {M : Mem} {h : Nat} (k : kdT h = 13) : mkE G M h = .inl (G.2.2.1.2.2.1, lnT h, .inr (.inr (.inr (.inr (fun i => some (G.1 + (h + 9 + i))))))) := by simp only [mkE, mkR, k]
theorem mk14 {G : Gm} {M : Mem} {h : Nat} (k : kdT h = 14) : mkE G M h = .inl (G.2.2.1.2.2.2, lnT h, .inr (.inr (.inr (.inr (fun i => some (G.1 + (h + 2 + 3 * i))))))) := by simp only [mkE, mkR, k]
abbrev clsA : List vw_C := [(RX0, TX0, 3), (RX1, TX1, 9), (RX2, TX2, 4), (RX3, TX3, 2), (RX4, TX4, 2), (RX5, TX5, 6), (RX6, TX6, 2), (RX7, TX7, 4), (RX8, TX8, 4), (RX9, TX9, 8), (RX10, TX10, 25)]
abbrev tysA (G : Gm) : List (ClassId × FieldType) := [(G.2.2.1.1, .int), (G.2.2.1.2.1, .object "RaddleMarks$Seeker"), (G.2.2.1.2.2.1, .object "RaddleMarks$Sheep"), (G.2.2.1.2.2.2, .object "RaddleMarks$Sheet")]
def nestW : List Cond := [.methodLinkNest RX9 9 yX8_init "RaddleMarks", .methodLinkNest RX1 46 yX4_init "RaddleMarks", .methodLinkNest RX1 47 yX5_init "RaddleMarks", .methodLinkNest RX9 28 yX2_init "RaddleMarks", .methodLinkNest RX9 35 yX7_init "RaddleMarks", .methodLinkNest RX9 50 yX6_init "RaddleMarks", .fieldLinkNest RX2 80 "RaddleMarks" "NAMES" "[C" "RaddleMarks", .methodLinkNest RX1 77 yX9_isCell "RaddleMarks", .methodLinkNest RX7 37 yX9_isWithin "RaddleMarks", .fieldLinkNest RX7 57 "RaddleMarks" "BODIES" "[I" "RaddleMarks", .fieldLinkNest RX7 41 "RaddleMarks" "KIND_ABOVE" "[I" "RaddleMarks"]
def KA (j : Nat) : Int32 := ([-1, 0, 0, 0, 1, 2, 3] : List Int32).getD j 0
def BO (j : Nat) : Int32 := ([10, 11, 12, 13, 20, 0, 0, 0, 0, 30, 0, 0, 0, 0, 40, 0, 0, 0, 0, 50, 0, 60, 0, 0, 0, 0, 70, 71] : List Int32).getD j 0
def NA (j : Nat) : Int32 := ([99, 115, 104, 100, 119, 109] : List Int32).getD j 0
def wl (G : Gm) (M : Mem) : va_W := (List.range nW).map (fun i => (G.1 + i, mkE G M i))
def inW (G : Gm) : Nat → Prop := fun q => G.1 ≤ q ∧ q < G.1 + nW
theorem wl_get {G : Gm} {M : Mem} {h : Nat} (hl : h < nW) : (wl G M)[h]? = some (G.1 + h, mkE G M h) := by
  simp only [wl, List.getElem?_map, List.getElem?_range hl, Option.map_some]
theorem wl_at {G : Gm} {M : Mem} {j : Nat} {q : Nat × va_E} (h : (wl G M)[j]? = some q) : j < nW ∧ q = (G.1 + j, mkE G M j) := by
  have hl : j < nW := by
    have h1 := (List.getElem?_eq_some_iff.mp h).1
    simpa [wl] using h1
  exact ⟨hl, (Option.some.inj ((wl_get (G := G) (M := M) hl).symm.trans h)).symm⟩
theorem wl_set {G : Gm} {M M' : Mem} {h : Nat} {e : va_E} (hl : h < nW) (hE : mkE G M' h = e) (hO : ∀ j, j ≠ h → M' j = M j) : (wl G M).set h (G.1 + h, e) = wl G M' := by
  apply List.ext_getElem?
  intro j
  by_cases hj : j = h
  · subst hj
    rw [List.getElem?_set_self (by simpa [wl] using hl), wl_get hl, hE]
  · rw [List.getElem?_set_ne (fun q => hj q.symm)]
    by_cases hl2 : j < nW
    · rw [wl_get hl2, wl_get hl2]
      simp only [mkE, hO j hj]
    · have h1 : (wl G M).length ≤ j := by simpa [wl] using hl2
      have h2 : (wl G M').length ≤ j := by simpa [wl] using hl2
      rw [List.getElem?_eq_none h1, List.getElem?_eq_none h2]
theorem wl_D (G : Gm) (M : Mem) : va_D (inW G) (wl G M) := by
  refine ⟨fun i j p q hi hj hpq => ?_, fun k q hk => ?_⟩
  · obtain ⟨-, rfl⟩ := wl_at hi
    obtain ⟨-, rfl⟩ := wl_at hj
    simpa using hpq
  · obtain ⟨hl, rfl⟩ := wl_at hk
    exact ⟨Nat.le_add_right _ _, Nat.add_lt_add_left hl _⟩
def Stt (G : Gm) (U : State) : Prop := va_K G.2.1 clsA (tysA G) U ∧ ∀ w ∈ nestW, va_Nw w U
def Tbs (G : Gm) (U : State) (H : Heap) : Prop :=
  (va_Z "RaddleMarks" "KIND_ABOVE" "[I" (.ref G.2.2.2.1) (inW G) U H ∧ va_T .int G.2.2.2.1 7 (fun j => .int (KA j)) (inW G) U H) ∧
  (va_Z "RaddleMarks" "BODIES" "[I" (.ref G.2.2.2.2.1) (inW G) U H ∧ va_T .int G.2.2.2.2.1 28 (fun j => .int (BO j)) (inW G) U H) ∧
  (va_Z "RaddleMarks" "NAMES" "[C" (.ref G.2.2.2.2.2) (inW G) U H ∧ va_T .char G.2.2.2.2.2 6 (fun j => .int (NA j)) (inW G) U H)
def Wd (G : Gm) (M : Mem) (U : State) : Prop := va_P G.2.1 clsA (wl G M) U.heap ∧ Stt G U ∧ Tbs G U U.heap
theorem nestW_warm {s U : State} (hW : s.WarmedH U.vm) (h : ∀ w ∈ nestW, va_Nw w s) : ∀ w ∈ nestW, va_Nw w U := by
  intro w hw
  have h1 := h w hw
  simp only [nestW, List.mem_cons, List.not_mem_nil, or_false] at hw
  rcases hw with rfl | rfl | rfl | rfl | rfl | rfl | rfl | rfl | rfl | rfl | rfl <;> first | exact va_Nw.warmM hW h1 | exact va_Nw.warmF hW h1
theorem nestW_same {s U : State} (hv : s.vm = U.vm) (h : ∀ w ∈ nestW, va_Nw w s) : ∀ w ∈ nestW, va_Nw w U := by
  intro w hw
  have h1 := h w hw
  simp only [nestW, List.mem_cons, List.not_mem_nil, or_false] at hw
  rcases hw with rfl | rfl | rfl | rfl | rfl | rfl | rfl | rfl | rfl | rfl | rfl <;> exact va_Nw.same rfl hv h1
theorem Stt.warm {G : Gm} {s U : State} (hW : s.WarmedH U.vm) (h : Stt G s) : Stt G U := ⟨va_K.moved hW.alike h.1, nestW_warm hW h.2⟩
theorem Tbs.moved {G : Gm} {u U : State} {H : Heap} (hvm : u.vm.Alike U.vm) (h : Tbs G u H) : Tbs G U H :=
  ⟨⟨h.1.1.moved hvm, h.1.2.moved hvm⟩, ⟨h.2.1.1.moved hvm, h.2.1.2.moved hvm⟩, ⟨h.2.2.1.moved hvm, h.2.2.2.moved hvm⟩⟩
theorem Tbs.kept {G : Gm} {U : State} {H H1 : Heap} (h : Tbs G U H) (hq : ∀ a : Nat, a < H.size → ¬ inW G a → H1[a]? = H[a]?) : Tbs G U H1 :=
  ⟨⟨h.1.1.kept hq, h.1.2.kept hq⟩, ⟨h.2.1.1.kept hq, h.2.1.2.kept hq⟩, ⟨h.2.2.1.kept hq, h.2.2.2.kept hq⟩⟩
/-- a method's end: what it answers, and the memory behind it -/
def Pq (G : Gm) (Q : Option Value → Mem → Prop) : Array Value → State → Outcome → State → Prop := fun _ st oc t => (∃ (r : Option Value) (M : Mem), oc = .returned r ∧ Q r M ∧ Wd G M t) ∧ va_F (inW G) st t
def Qi (Q : Int32 → Mem → Prop) : Option Value → Mem → Prop := fun r M => ∃ x : Int32, r = some (.int x) ∧ Q x M
def Qv (Q : Mem → Prop) : Option Value → Mem → Prop := fun r M => r = none ∧ Q M
def Qa (G : Gm) (Q : Nat → Mem → Prop) : Option Value → Mem → Prop := fun r M => ∃ x : Nat, r = some (.ref (G.1 + x)) ∧ Q x M
/-- a method's contract -/
def Ct (l : Launch) (G : Gm) (y : MethodName) (bytes : ByteArray) (maxL : Nat) (ret : Option FieldType) (rm : Room) (av : List Value) (M : Mem) (Q : Option Value → Mem → Prop) : Prop :=
  Met l y (Cond.code y bytes maxL ret :: lwg) rm (va_Pc av (Wd G M)) (Pq G Q) 0 0 (inW G)
theorem Wd.blind (G : Gm) (av : List Value) (M : Mem) : FrameBlind (va_Pc av (Wd G M)) := by
  intro a U g mk q
  obtain ⟨q0, qP, ⟨qK, qN⟩, qT⟩ := q
  exact ⟨q0, qP, ⟨va_K.moved (u := U) (U := U.calling g mk a) (Vm.Alike.refl U.vm) qK, nestW_same (s := U) (U := U.calling g mk a) rfl qN⟩, Tbs.moved (u := U) (U := U.calling g mk a) (Vm.Alike.refl U.vm) qT⟩
theorem goodIn_lwg {w0 w : Cond} (h : w ∈ lwg) : GoodIn (w0 :: lwg) (w :: lwg) := by
  intro v hv
  have h1 : v ∈ lwg := by
    rcases List.mem_cons.mp hv with rfl | q
    · exact h
    · exact q
  exact ⟨List.mem_cons_of_mem _ h1, good_of_word (List.mem_filter.mp h1).2⟩
section CORE
variable {p : Program} {l : Launch} {e : Env} {R : Room} {s : State} {m : MethodId} {args : Array Value} {below : List Frame} {meth : Method} {c : Code} {H : Heap} {locs : List Loc} {cells slots : Nat} {Q : State → Prop}
variable {cc : ByteArray} {pc : Nat} {ls : Array Slot} {rest : List Value} {G : Gm} {M : Mem}
theorem mw_end {Qc : Option Value → Mem → Prop} {r : Option Value} (hP : va_P G.2.1 clsA (wl G M) H) (hSt : Stt G s) (hTb : Tbs G s s.heap) (hS : va_S (inW G) s.heap H locs) (hq : Qc r M) : ∀ t : State, t.heap = H → s.WarmedH t.vm → Pq G Qc args s (.returned r) t := by
  intro t ht hW
  refine ⟨⟨r, M, rfl, hq, by rw [ht]; exact hP, hSt.warm hW, ?_⟩, hS.F ht⟩
  have h1 := Tbs.moved hW.alike hTb
  rw [ht]
  exact h1.kept hS.2.1
theorem mw_get (hexec : p.tables.exec = Jvm.exec) (hb : c.code = cc) {own ref C : String} {T : u_T} {N ci index : Nat} {Ts : List Cond} (hts : ∀ w ∈ Ts, w.before args s = true) (hin : ∀ w ∈ u_ws C T N, w ∈ Ts) (hown : s.vm.findClass own = some m.cls) (hSt : Stt G s) (hP : va_P G.2.1 clsA (wl G M) H) {h : Nat} (hk : kdT h = ci) (h9 : ci ≠ 99) {fs : List Value} (hE : mkE G M h = .inr (ci, fs)) (hc : clsA[ci]? = some (C, T, N)) (k : Nat) (hkN : k < N) (hlink : (Cond.fieldLink own index ref (T k).2.1 (T k).2.2.1).before args s = true) (href : ref = (T k).1) {v : Value} (hv : fs[k]? = some v) (hdg : decode cc pc = .ok (.getfield index, 3))
    (kk : W p l e R s m args below meth c H locs cells slots Q (F0 m (pc + 3) ls (v :: rest))) : W p l e R s m args below meth c H locs cells slots Q (F0 m pc ls (.ref (G.1 + h) :: rest)) :=
  va_get hexec hb hts hin hown hSt.1 hP h ((wl_get (kd_lt hk h9)).trans (by rw [hE])) hc k hkN hlink (fun _ h9 => by rw [href]; exact h9) hv hdg kk
theorem mw_put (hexec : p.tables.exec = Jvm.exec) (hb : c.code = cc) {own ref C : String} {T : u_T} {N ci index : Nat} {Ts : List Cond} (hts : ∀ w ∈ Ts, w.before args s = true) (hin : ∀ w ∈ u_ws C T N, w ∈ Ts) (ty0 : Nat → FieldType) (hty : ∀ k, k < N → parseFieldDescriptor (T k).2.2.1 = some (ty0 k)) (hnm : ∀ a, a < N → ∀ b, b < N → a ≠ b → (T a).2.1 ≠ (T b).2.1) (hown : s.vm.findClass own = some m.cls) (hSt : Stt G s) (hP : va_P G.2.1 clsA (wl G M) H) (hS0 : va_S (inW G) s.heap H locs) {h : Nat} (hk : kdT h = ci) (h9 : ci ≠ 99) {fs : List Value} (hE : mkE G M h = .inr (ci, fs)) (hc : clsA[ci]? = some (C, T, N)) (k : Nat) (hkN : k < N) (hlink : (Cond.fieldLink own index ref (T k).2.1 (T k).2.2.1).before args s = true) (href : ref = (T k).1) (hfin : (T k).2.2.2 = false) {ty : FieldType} {v : Int32} (hd : parseFieldDescriptor (T k).2.2.1 = some ty) (hn : narrow ty (.int v) = .int v) (hfit : fits ty (.int v) = true) (hl : k < fs.length) (hE2 : mkE G (mu M h k v) h = .inr (ci, fs.set k (.int v)))
    (hdg : decode cc pc = .ok (.putfield index, 3)) (kk : ∀ (M1 : Mem) (H1 : Heap) (locs1 : List Loc), M1 = mu M h k v → va_P G.2.1 clsA (wl G M1) H1 → va_S (inW G) s.heap H1 locs1 → W p l e R s m args below meth c H1 locs1 cells slots Q (F0 m (pc + 3) ls rest)) : W p l e R s m args below meth c H locs cells slots Q (F0 m pc ls (.int v :: .ref (G.1 + h) :: rest)) := by
  refine va_put hexec hb hts hin ty0 hty hnm hown hSt.1 hP (wl_D G M) hS0 h ((wl_get (kd_lt hk h9)).trans (by rw [hE])) hc k hkN hlink (fun _ h9 => by rw [href]; exact h9) hfin hd hn hfit hl hdg (fun H1 locs1 hP1 _ hS1 => ?_)
  rw [wl_set (M' := mu M h k v) (kd_lt hk h9) hE2 (fun j hj => mu_ne hj)] at hP1
  exact kk _ H1 locs1 rfl hP1 hS1
theorem mw_iald (hexec : p.tables.exec = Jvm.exec) (hb : c.code = cc) (hSt : Stt G s) (hP : va_P G.2.1 clsA (wl G M) H) {h : Nat} (hk : kdT h = 11) {i : Int32} (hin : vp_in i (lnT h)) (hdg : decode cc pc = .ok (.iaload, 1))
    (kk : W p l e R s m args below meth c H locs cells slots Q (F0 m (pc + 1) ls (.int (M h i.toNatClampNeg) :: rest))) : W p l e R s m args below meth c H locs cells slots Q (F0 m pc ls (.int i :: .ref (G.1 + h) :: rest)) :=
  va_iald hexec hb hSt.1 hP h 0 ((wl_get (kd_lt hk (by decide))).trans (by rw [mk11 hk])) rfl hin hdg kk
theorem mw_iast (hexec : p.tables.exec = Jvm.exec) (hb : c.code = cc) (hSt : Stt G s) (hP : va_P G.2.1 clsA (wl G M) H) (hS : va_S (inW G) s.heap H locs) {h : Nat} (hk : kdT h = 11) {i x : Int32} (hin : vp_in i (lnT h)) (hdg : decode cc pc = .ok (.iastore, 1))
    (kk : ∀ (M1 : Mem) (H1 : Heap) (locs1 : List Loc), M1 = mu M h i.toNatClampNeg x → va_P G.2.1 clsA (wl G M1) H1 → va_S (inW G) s.heap H1 locs1 → W p l e R s m args below meth c H1 locs1 cells slots Q (F0 m (pc + 1) ls rest)) : W p l e R s m args below meth c H locs cells slots Q (F0 m pc ls (.int x :: .int i :: .ref (G.1 + h) :: rest)) := by
  refine va_iast hexec hb hSt.1 hP (wl_D G M) hS h 0 ((wl_get (kd_lt hk (by decide))).trans (by rw [mk11 hk])) rfl hin hdg (fun H1 locs1 hP1 _ hS1 => ?_)
  rw [wl_set (M' := mu M h i.toNatClampNeg x) (kd_lt hk (by decide)) (by rw [mk11 hk, mu_same]) (fun j hj => mu_ne hj)] at hP1
  exact kk _ H1 locs1 rfl hP1 hS1
theorem mw_alen (hexec : p.tables.exec = Jvm.exec) (hb : c.code = cc) (hSt : Stt G s) (hP : va_P G.2.1 clsA (wl G M) H) {h : Nat} (hk : kdT h = 11) (hdg : decode cc pc = .ok (.arraylength, 1))
    (kk : W p l e R s m args below meth c H locs cells slots Q (F0 m (pc + 1) ls (.int (nI (lnT h)) :: rest))) : W p l e R s m args below meth c H locs cells slots Q (F0 m pc ls (.ref (G.1 + h) :: rest)) :=
  va_alen (x := (lnT h, .inl (M h))) hexec hb hSt.1 hP h 0 ((wl_get (kd_lt hk (by decide))).trans (by rw [mk11 hk])) rfl rfl hdg kk
theorem mw_aald12 (hexec : p.tables.exec = Jvm.exec) (hb : c.code = cc) (hSt : Stt G s) (hP : va_P G.2.1 clsA (wl G M) H) {h : Nat} (hk : kdT h = 12) {i : Int32} (hin : vp_in i (lnT h)) (hdg : decode cc pc = .ok (.aaload, 1))
    (kk : W p l e R s m args below meth c H locs cells slots Q (F0 m (pc + 1) ls (.ref (G.1 + (h + 4 + i.toNatClampNeg)) :: rest))) : W p l e R s m args below meth c H locs cells slots Q (F0 m pc ls (.int i :: .ref (G.1 + h) :: rest)) :=
  va_aldq (f := fun i => some (G.1 + (h + 4 + i))) hexec hb hSt.1 hP h 1 ((wl_get (kd_lt hk (by decide))).trans (by rw [mk12 hk])) rfl hin hdg kk
theorem mw_aald13 (hexec : p.tables.exec = Jvm.exec) (hb : c.code = cc) (hSt : Stt G s) (hP : va_P G.2.1 clsA (wl G M) H) {h : Nat} (hk : kdT h = 13) {i : Int32} (hin : vp_in i (lnT h)) (hdg : decode cc pc = .ok (.aaload, 1))
    (kk : W p l e R s m args below meth c H locs cells slots Q (F0 m (pc + 1) ls (.ref (G.1 + (h + 9 + i.toNatClampNeg)) :: rest))) : W p l e R s m args below meth c H locs cells slots Q (F0 m pc ls (.int i :: .ref (G.1 + h) :: rest)) :=
  va_aldq (f := fun i => some (G.1 + (h + 9 + i))) hexec hb hSt.1 hP h 2 ((wl_get (kd_lt hk (by decide))).trans (by rw [mk13 hk])) rfl hin hdg kk
theorem mw_aald14 (hexec : p.tables.exec = Jvm.exec) (hb : c.code = cc) (hSt : Stt G s) (hP : va_P G.2.1 clsA (wl G M) H) {h : Nat} (hk : kdT h = 14) {i : Int32} (hin : vp_in i (lnT h)) (hdg : decode cc pc = .ok (.aaload, 1))
    (kk : W p l e R s m args below meth c H locs cells slots Q (F0 m (pc + 1) ls (.ref (G.1 + (h + 2 + 3 * i.toNatClampNeg)) :: rest))) : W p l e R s m args below meth c H locs cells slots Q (F0 m pc ls (.int i :: .ref (G.1 + h) :: rest)) :=
  va_aldq (f := fun i => some (G.1 + (h + 2 + 3 * i))) hexec hb hSt.1 hP h 3 ((wl_get (kd_lt hk (by decide))).trans (by rw [mk14 hk])) rfl hin hdg kk
theorem mw_copy (hexec : p.tables.exec = Jvm.exec) (hb : c.code = cc) (hml : c.maxLocals = ls.size) {own : String} {index : Nat} (hown : s.vm.findClass own = some m.cls) (hlink : (Cond.methodLink own index arraycopyName).before args s = true) (hnat : (Cond.native arraycopyName).before args s = true) (hstat : (Cond.static arraycopyName).before args s = true) (hini : (Cond.initialized "java/lang/System").before args s = true)
    (hSt : Stt G s) (hP : va_P G.2.1 clsA (wl G M) H) (hS : va_S (inW G) s.heap H locs) {h0 h1 : Nat} (hk0 : kdT h0 = 11) (hk1 : kdT h1 = 11)
    {sp dp n : Int32} (hc : ¬ sp < 0 ∧ ¬ dp < 0 ∧ ¬ n < 0 ∧ sp.toNatClampNeg + n.toNatClampNeg ≤ lnT h0 ∧ dp.toNatClampNeg + n.toNatClampNeg ≤ lnT h1)
    (hframes : 1 ≤ R.frames) (hlocals : (rest.map fun v => v.category).sum + (nativeFrameWords "java/lang/System" "arraycopy" 5 + 11) ≤ R.locals) (hdg : decode cc pc = .ok (.invokestatic index, 3))
    (kk : ∀ (M1 : Mem) (H1 : Heap) (locs1 : List Loc), M1 = mcp M h0 sp.toNatClampNeg h1 dp.toNatClampNeg n.toNatClampNeg → va_P G.2.1 clsA (wl G M1) H1 → va_S (inW G) s.heap H1 locs1 → W p l e R s m args below meth c H1 locs1 cells slots Q (F0 m (pc + 3) ls rest)) : W p l e R s m args below meth c H locs cells slots Q (F0 m pc ls (.int n :: .int dp :: .ref (G.1 + h1) :: .int sp :: .ref (G.1 + h0) :: rest)) := by
  refine va_copyi hexec hb hml hown hlink hnat hstat hini hSt.1 hP (wl_D G M) hS h0 h1 0 0 ((wl_get (kd_lt hk0 (by decide))).trans (by rw [mk11 hk0])) ((wl_get (kd_lt hk1 (by decide))).trans (by rw [mk11 hk1])) rfl rfl rfl hc.1 hc.2.1 hc.2.2.1 hc.2.2.2.1 hc.2.2.2.2 (fun _ _ => rfl) hframes hlocals hdg (fun H1 locs1 hP1 _ hS1 => ?_)
  rw [wl_set (M' := mcp M h0 sp.toNatClampNeg h1 dp.toNatClampNeg n.toNatClampNeg) (kd_lt hk1 (by decide)) (by rw [mk11 hk1, mcp_same]) (fun j hj => mcp_ne hj)] at hP1
  exact kk _ H1 locs1 rfl hP1 hS1
/-- behind a call -/
theorem mw_back {Qc : Option Value → Mem → Prop} {st0 : List Value} {a : Array Value} (hr : va_Run p l e R s m args below meth c H locs cells slots 0 0 (F0 m pc ls st0) rest (Pq G Qc a) (inW G)) (hS : va_S (inW G) s.heap H locs)
    (kk : ∀ (r : Option Value) (M1 : Mem) (H1 : Heap) (locs1 : List Loc), Qc r M1 → va_P G.2.1 clsA (wl G M1) H1 → va_S (inW G) s.heap H1 locs1 → W p l e R s m args below meth c H1 locs1 cells slots Q (F0 m (pc + 3) ls (r.toList ++ rest))) : W p l e R s m args below meth c H locs cells slots Q (F0 m pc ls st0) := by
  intro T hT X
  obtain ⟨v, st₀, t, T', L, h0, X', hL, e1, e2, ⟨⟨r, M1, hv, hp, hw⟩, hz, hk⟩, st⟩ := hr T hT X
  cases hv
  rw [h0] at hz hk
  obtain ⟨t2, a1, b1⟩ := kk v M1 T'.heap (locs ++ L) hp (by rw [e1]; exact hw.1) ⟨Nat.le_trans hS.1 (by rw [e1]; exact hz), fun q h1 h2 => by rw [e1, hk q (Nat.lt_of_lt_of_le h1 hS.1) h2]; exact hS.2.1 q h1 h2, fun q hq => by
      rcases List.mem_append.mp hq with h | h
      · exact hS.2.2 q h
      · exact hL q h⟩ T' rfl X'
  exact ⟨t2, st t2 a1, b1⟩
/-- the world as the callee finds it -/
theorem mw_pre {av : List Value} (hSt : Stt G s) (hTb : Tbs G s s.heap) (hP : va_P G.2.1 clsA (wl G M) H) (hS : va_S (inW G) s.heap H locs) : ∀ U : State, U.heap = H → s.WarmedH U.vm → va_Pc av (Wd G M) av.toArray U := by
  intro U hU hW
  refine ⟨rfl, by rw [hU]; exact hP, hSt.warm hW, ?_⟩
  have h1 := Tbs.moved hW.alike hTb
  rw [hU]
  exact h1.kept hS.2.1
variable {y : MethodName} {bytes : ByteArray} {maxL nL index n h ci : Nat} {ret : Option FieldType} {rm : Room} {own C : String} {T : u_T} {N : Nat} {As : List Value} {Qc : Option Value → Mem → Prop} {c0 : Cond} {host : String}
theorem mw_V (S : CallFix p m c cc nL s args (c0 :: lwg) own) (hM : Ct l G y bytes maxL ret rm (.ref (G.1 + h) :: As) M Qc)
    (h1 : Cond.methodLink own index y ∈ lwg) (h2 : Cond.instanceMethod y ∈ lwg) (h3 : Cond.selects y.cls y y ∈ lwg) (h4 : Cond.initialized y.cls ∈ lwg) (h5 : Cond.code y bytes maxL ret ∈ lwg)
    (hd : y.cls ≠ "java/lang/invoke/MethodHandle" ∧ y.cls ≠ "java/lang/invoke/VarHandle" ∧ (parseMethodDescriptor y.desc).map (fun d => d.parameters.length) = some n) (hR : rm.frames + 1 ≤ R.frames ∧ 8 + (maxL + 11) + rm.locals ≤ R.locals) (hR0 : rm.cells = 0 ∧ rm.slots = 0)
    (hk : kdT h = ci) (h9 : ci ≠ 99) {fs : List Value} (hE : mkE G M h = .inr (ci, fs)) (hc : clsA[ci]? = some (y.cls, T, N))
    (hSt : Stt G s) (hTb : Tbs G s s.heap) (hP : va_P G.2.1 clsA (wl G M) H) (hS : va_S (inW G) s.heap H locs)
    (hn : As.length = n) (hsize : ls.size = nL) {st0 : List Value} (hstack : st0 = As.reverse ++ .ref (G.1 + h) :: rest) (hW : (rest.map fun v => v.category).sum ≤ 8) (hdg : decode cc pc = .ok (.invokevirtual index, 3)) (hf : cells ≤ R.cells ∧ slots ≤ R.slots)
    (kk : ∀ (r : Option Value) (M1 : Mem) (H1 : Heap) (locs1 : List Loc), Qc r M1 → va_P G.2.1 clsA (wl G M1) H1 → va_S (inW G) s.heap H1 locs1 → W p l e R s m args below meth c H1 locs1 cells slots Q (F0 m (pc + 3) ls (r.toList ++ rest))) : W p l e R s m args below meth c H locs cells slots Q (F0 m pc ls st0) := by
  subst hstack
  refine mw_back (va_runV (As := As) (rest := rest) S hM (cwV n S.2.2.2.2 (fun w hw => ?_) rfl hR0.1 hR0.2 ⟨rfl, hd⟩ hR) ⟨Wd.blind G _ M, va_recv hSt.1 hP hc ((wl_get (kd_lt hk h9)).trans (by rw [hE])), mw_pre hSt hTb hP hS⟩ rfl hn hsize rfl (lv_room hW) hdg hf) hS kk
  rcases List.mem_append.mp hw with q | q
  · simp only [List.mem_cons, List.not_mem_nil, or_false] at q
    rcases q with rfl | rfl | rfl | rfl
    · exact goodIn_lwg h1 _ List.mem_cons_self
    · exact goodIn_lwg h2 _ List.mem_cons_self
    · exact goodIn_lwg h3 _ List.mem_cons_self
    · exact goodIn_lwg h4 _ List.mem_cons_self
  · exact goodIn_lwg h5 w q
theorem mw_Sx (S : CallFix p m c cc nL s args (c0 :: lwg) own) (hM : Ct l G y bytes maxL ret rm As M Qc)
    (h1 : Cond.methodLink own index y ∈ lwg) (h2 : Cond.static y ∈ lwg) (h4 : Cond.initialized y.cls ∈ lwg) (h5 : Cond.code y bytes maxL ret ∈ lwg)
    (hd : y.cls ≠ "java/lang/invoke/MethodHandle" ∧ y.cls ≠ "java/lang/invoke/VarHandle" ∧ (parseMethodDescriptor y.desc).map (fun d => d.parameters.length) = some n) (hR : rm.frames + 1 ≤ R.frames ∧ 8 + (maxL + 11) + rm.locals ≤ R.locals) (hR0 : rm.cells = 0 ∧ rm.slots = 0)
    (hSt : Stt G s) (hTb : Tbs G s s.heap) (hP : va_P G.2.1 clsA (wl G M) H) (hS : va_S (inW G) s.heap H locs)
    (hn : As.length = n) (hsize : ls.size = nL) {st0 : List Value} (hstack : st0 = As.reverse ++ rest) (hW : (rest.map fun v => v.category).sum ≤ 8) (hdg : decode cc pc = .ok (.invokestatic index, 3)) (hf : cells ≤ R.cells ∧ slots ≤ R.slots)
    (kk : ∀ (r : Option Value) (M1 : Mem) (H1 : Heap) (locs1 : List Loc), Qc r M1 → va_P G.2.1 clsA (wl G M1) H1 → va_S (inW G) s.heap H1 locs1 → W p l e R s m args below meth c H1 locs1 cells slots Q (F0 m (pc + 3) ls (r.toList ++ rest))) : W p l e R s m args below meth c H locs cells slots Q (F0 m pc ls st0) := by
  subst hstack
  refine mw_back (va_runS (As := As) (rest := rest) S hM (va_cwS n S.2.2.2.2 (fun w hw => ?_) rfl hR0.1 hR0.2 hd hR) ⟨Wd.blind G _ M, mw_pre hSt hTb hP hS⟩ rfl hn hsize rfl (lv_room hW) hdg hf) hS kk
  rcases List.mem_append.mp hw with q | q
  · simp only [List.mem_cons, List.not_mem_nil, or_false] at q
    rcases q with rfl | rfl | rfl
    · exact goodIn_lwg h1 _ List.mem_cons_self
    · exact goodIn_lwg h2 _ List.mem_cons_self
    · exact goodIn_lwg h4 _ List.mem_cons_self
  · exact goodIn_lwg h5 w q
theorem mw_SN (S : CallFix p m c cc nL s args (c0 :: lwg) own) (hM : Ct l G y bytes maxL ret rm As M Qc)
    (h1 : Cond.methodLinkNest own index y host ∈ nestW) (h2 : Cond.static y ∈ lwg) (h4 : Cond.initialized y.cls ∈ lwg) (h5 : Cond.code y bytes maxL ret ∈ lwg)
    (hd : y.cls ≠ "java/lang/invoke/MethodHandle" ∧ y.cls ≠ "java/lang/invoke/VarHandle" ∧ (parseMethodDescriptor y.desc).map (fun d => d.parameters.length) = some n) (hR : rm.frames + 1 ≤ R.frames ∧ 8 + (maxL + 11) + rm.locals ≤ R.locals) (hR0 : rm.cells = 0 ∧ rm.slots = 0)
    (hSt : Stt G s) (hTb : Tbs G s s.heap) (hP : va_P G.2.1 clsA (wl G M) H) (hS : va_S (inW G) s.heap H locs)
    (hn : As.length = n) (hsize : ls.size = nL) {st0 : List Value} (hstack : st0 = As.reverse ++ rest) (hW : (rest.map fun v => v.category).sum ≤ 8) (hdg : decode cc pc = .ok (.invokestatic index, 3)) (hf : cells ≤ R.cells ∧ slots ≤ R.slots)
    (kk : ∀ (r : Option Value) (M1 : Mem) (H1 : Heap) (locs1 : List Loc), Qc r M1 → va_P G.2.1 clsA (wl G M1) H1 → va_S (inW G) s.heap H1 locs1 → W p l e R s m args below meth c H1 locs1 cells slots Q (F0 m (pc + 3) ls (r.toList ++ rest))) : W p l e R s m args below meth c H locs cells slots Q (F0 m pc ls st0) := by
  subst hstack
  have ok : ∀ w ∈ lwg, w.before args s = true := fun w h => S.2.2.2.2 w (List.mem_cons_of_mem _ h)
  exact mw_back (va_runSN (As := As) (rest := rest) S hM ⟨va_cnB n S.2.2.2.2 (goodIn_lwg h5) rfl hR0.1 hR0.2 (hSt.2 _ h1) (ok _ h4) hd hR, ok _ h2, trivial⟩ ⟨Wd.blind G _ M, mw_pre hSt hTb hP hS⟩ rfl hn hsize rfl (lv_room hW) hdg hf) hS kk
end CORE

