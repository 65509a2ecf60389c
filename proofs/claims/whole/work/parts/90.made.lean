/-! ===== the world while it is made: cells one behind another from G.1 on, and no more ===== -/
def gP (G : Gm) (ws : List va_E) (H : Heap) : Prop := (∀ (k : Nat) (e : va_E), ws[k]? = some e → va_at G.2.1 clsA (G.1 + k, e) H) ∧ H.size = G.1 + ws.length
def upA (G : Gm) : Nat → Prop := fun q => G.1 ≤ q
def StI (G : Gm) (U : State) : Prop := Stt G U ∧ va_AO "RaddleMarks$Seeker" U ∧ va_AO "RaddleMarks$Sheep" U ∧ va_AO "RaddleMarks$Sheet" U
def Wg (G : Gm) (ws : List va_E) (U : State) : Prop := gP G ws U.heap ∧ StI G U
theorem StI.moved {G : Gm} {s U : State} (hn : ∀ w ∈ nestW, va_Nw w U) (hA : s.vm.Alike U.vm) (h : StI G s) : StI G U := ⟨⟨va_K.moved hA h.1.1, hn⟩, h.2.1.moved hA, h.2.2.1.moved hA, h.2.2.2.moved hA⟩
theorem StI.warm {G : Gm} {s U : State} (hW : s.WarmedH U.vm) (h : StI G s) : StI G U := h.moved (nestW_warm hW h.1.2) hW.alike
theorem gP.push {G : Gm} {ws : List va_E} {H H1 : Heap} {e : va_E} (hP : gP G ws H) (hn : va_at G.2.1 clsA (G.1 + ws.length, e) H1) (hz : H1.size = H.size + 1) (ho : ∀ q : Nat, q < H.size → H1[q]? = H[q]?) : gP G (ws ++ [e]) H1 := by
  have hP2 := hP.2
  refine ⟨fun k x hk => ?_, by rw [hz, hP2, List.length_append]; rfl⟩
  by_cases hl : k < ws.length
  · rw [List.getElem?_append_left hl] at hk
    exact (hP.1 k x hk).kept (ho _ (by show G.1 + k < H.size; omega))
  · rw [List.getElem?_append_right (by omega)] at hk
    have hz2 : k - ws.length < 1 := (List.getElem?_eq_some_iff.mp hk).1
    have hkz : k = ws.length := by omega
    subst hkz
    rw [Nat.sub_self] at hk
    cases hk
    exact hn
theorem gP.set {G : Gm} {ws : List va_E} {H H1 : Heap} {k : Nat} {e e' : va_E} (hP : gP G ws H) (he : ws[k]? = some e) (hn : va_at G.2.1 clsA (G.1 + k, e') H1) (hz : H1.size = H.size) (ho : ∀ q : Nat, q ≠ G.1 + k → H1[q]? = H[q]?) : gP G (ws.set k e') H1 := by
  refine ⟨fun j x hj => ?_, by rw [hz, hP.2, List.length_set]⟩
  by_cases hjk : j = k
  · subst hjk
    rw [List.getElem?_set_self (List.getElem?_eq_some_iff.mp he).1] at hj
    cases hj
    exact hn
  · rw [List.getElem?_set_ne (fun q => hjk q.symm)] at hj
    exact (hP.1 j x hj).kept (ho _ (by show G.1 + j ≠ G.1 + k; omega))
theorem pre_at (pre xs : List va_E) (k : Nat) : (pre ++ xs)[pre.length + k]? = xs[k]? := by
  rw [List.getElem?_append_right (Nat.le_add_right _ _), Nat.add_sub_cancel_left]
theorem pre_set (pre xs : List va_E) (k : Nat) (e : va_E) : (pre ++ xs).set (pre.length + k) e = pre ++ xs.set k e := by
  rw [List.set_append_right _ _ (Nat.le_add_right _ _), Nat.add_sub_cancel_left]
/-- a reference array's content, read within its length -/
theorem gP.refs {G : Gm} {pre xs : List va_E} {H : Heap} (hP : gP G (pre ++ xs) H) (k : Nat) {cA : ClassId} {n : Nat} {f : Nat → Option Nat} (g : Nat → Option Nat) (he : xs[k]? = some (.inl (cA, n, .inr (.inr (.inr (.inr f)))))) (hg : ∀ i, i < n → f i = g i) : gP G (pre ++ xs.set k (.inl (cA, n, .inr (.inr (.inr (.inr g)))))) H := by
  rw [← pre_set]
  have h1 := (pre_at pre xs k).trans he
  refine hP.set h1 ?_ rfl (fun _ _ => rfl)
  have h2 := hP.1 _ _ h1
  have h3 : H[G.1 + (pre.length + k)]? = some (vp_cell cA (n, .inr (.inr (.inr (.inr f))))) := h2
  show H[G.1 + (pre.length + k)]? = some (vp_cell cA (n, .inr (.inr (.inr (.inr g)))))
  rw [h3, vp_cell_q, vp_cell_q]
  have h4 : (Array.ofFn (n := n) fun j => va_rf (f j.val)) = Array.ofFn (n := n) fun j => va_rf (g j.val) := by
    congr 1
    funext j
    rw [hg j.val j.isLt]
  unfold arrV
  rw [h4]
def Pn (G : Gm) (ws : List va_E) : Array Value → State → Outcome → State → Prop := fun _ st oc t => (oc = .returned none ∧ Wg G ws t) ∧ va_F (upA G) st t
/-- a constructor's contract: from the cells ws to the cells ws' -/
def Cn (l : Launch) (G : Gm) (y : MethodName) (bytes : ByteArray) (maxL : Nat) (rm : Room) (av : List Value) (ws ws' : List va_E) (mc ms : Nat) : Prop :=
  Met l y (Cond.code y bytes maxL none :: lwg) rm (va_Pc av (Wg G ws)) (Pn G ws') mc ms (upA G)
def En (p : Program) (s : State) (m : MethodId) (args : Array Value) (meth : Method) (c : Code) (G : Gm) (own : String) (cc : ByteArray) (nL : Nat) (c0 : Cond) : Prop :=
  p.tables.exec = Jvm.exec ∧ c.code = cc ∧ c.maxLocals = nL ∧ s.vm.findClass own = some m.cls ∧ (∀ w ∈ (c0 :: lwg), w.before args s = true) ∧ (∀ w ∈ lwg, w.before args s = true) ∧ meth.sig.returnType = none ∧ meth.locks = false ∧ StI G s ∧ meth.name = "<init>"
theorem cn_of {l : Launch} {G : Gm} {y : MethodName} {bytes : ByteArray} {maxL : Nat} {rm : Room} {av : List Value} {ws ws' : List va_E} {mc ms : Nat} (hy : plainName y.cls = true) (hyn : y.name = "<init>") (hen : (lg_sl av).length ≤ maxL)
    (body : ∀ (p : Program) (e : Env) (s : State) (m : MethodId) (below : List Frame) (meth : Method) (c : Code), En p s m av.toArray meth c G y.cls bytes maxL (Cond.code y bytes maxL none) → ∀ (ls : Array Slot) (H : Heap), lv_has ls maxL (lv_args 0 av) → gP G ws H → va_S (upA G) s.heap H [] → W p l e rm s m av.toArray below meth c H [] 0 0 (MQ below (Pn G ws') av.toArray s mc ms (upA G)) (F0 m 0 ls [])) : Cn l G y bytes maxL rm av ws ws' mc ms := by
  refine Met.ofW (cc := bytes) (maxL := maxL) (ret := none) hy rfl ?_
  intro p e s m args below meth c s₁ B hml hv
  obtain ⟨rfl, hP, hSt⟩ := hv
  have hts := atoms_spec (ws := Cond.code y bytes maxL none :: lwg) B.pre
  have hl := lv_entry av (n := maxL) hen
  rw [lg_entry_eq]
  exact body p e s m below meth c ⟨B.exec, B.bytes, hml, findClass_of_methodNamed B.named, hts, fun w h => hts w (List.mem_cons_of_mem _ h), B.returns, B.notSynchronized, hSt, (name_of_methodNamed B.named B.method).1.trans hyn⟩ _ s.heap hl hP va_S.rf
theorem nw_end {G : Gm} {ws : List va_E} {H : Heap} {locs : List Loc} {s : State} {args : Array Value} (hP : gP G ws H) (hSt : StI G s) (hS : va_S (upA G) s.heap H locs) : ∀ t : State, t.heap = H → s.WarmedH t.vm → Pn G ws args s (.returned none) t := by
  intro t ht hW
  refine ⟨⟨rfl, ?_, hSt.warm hW⟩, hS.F ht⟩
  rw [ht]
  exact hP
theorem Wg.blind (G : Gm) (av : List Value) (ws : List va_E) : FrameBlind (va_Pc av (Wg G ws)) := by
  intro a U g mk q
  obtain ⟨q0, qP, qS⟩ := q
  exact ⟨q0, qP, StI.moved (s := U) (U := U.calling g mk a) (nestW_same (s := U) (U := U.calling g mk a) rfl qS.1.2) (Vm.Alike.refl U.vm) qS⟩
section NEW
variable {p : Program} {l : Launch} {e : Env} {R : Room} {s : State} {m : MethodId} {args : Array Value} {below : List Frame} {meth : Method} {c : Code} {H : Heap} {locs : List Loc} {cells slots : Nat} {Q : State → Prop}
variable {cc : ByteArray} {pc : Nat} {ls : Array Slot} {rest : List Value} {G : Gm} {pre xs : List va_E} {h : Nat}
theorem nw_S {H1 : Heap} (hS : va_S (upA G) s.heap H locs) (hz : H.size ≤ H1.size) (ho : ∀ q : Nat, q < H.size → H1[q]? = H[q]?) : va_S (upA G) s.heap H1 locs :=
  ⟨Nat.le_trans hS.1 hz, fun x h1 h2 => (ho x (Nat.lt_of_lt_of_le h1 hS.1)).trans (hS.2.1 x h1 h2), hS.2.2⟩
theorem nw_new (hexec : p.tables.exec = Jvm.exec) (hb : c.code = cc) {own C : String} {T : u_T} {N ci index : Nat} (ht : ∀ w ∈ lwg, w.before args s = true) (hin : ∀ w ∈ u_ws C T N, w ∈ lwg) (ty : Nat → FieldType) (hty : ∀ k, k < N → parseFieldDescriptor (T k).2.2.1 = some (ty k)) (hown : s.vm.findClass own = some m.cls) (hcl : (Cond.classLink own index C).before args s = true) (hinst : (Cond.instantiable C N).before args s = true) (hini : (Cond.initialized C).before args s = true)
    (hSt : StI G s) (hh : pre.length = h) (hP : gP G (pre ++ xs) H) (hS : va_S (upA G) s.heap H locs) (hc : clsA[ci]? = some (C, T, N)) {fs : List Value} (hfs : ∀ j, j < N → defaultValue (ty j) = vp_V fs j) (n : Nat) (hn : xs.length = n) (hcells : cells + 1 ≤ R.cells) (hslots : slots + N ≤ R.slots) (hdg : decode cc pc = .ok (.new index, 3))
    (kk : ∀ H1 : Heap, gP G (pre ++ (xs ++ [.inr (ci, fs)])) H1 → va_S (upA G) s.heap H1 locs → W p l e R s m args below meth c H1 locs (cells + 1) (slots + N) Q (F0 m (pc + 3) ls (.ref (G.1 + (h + n)) :: rest))) : W p l e R s m args below meth c H locs cells slots Q (F0 m pc ls rest) := by
  have hKn := hSt.1.1.1 ci _ hc
  have hz0 : H.size = G.1 + (h + n) := by rw [hP.2, List.length_append, hh, hn]
  refine W.newcK hexec hb hown hcl hinst hini rfl hdg hcells hslots hKn.2.1 hz0 fun H1 kC hkC e1 z1 o1 => ?_
  rw [← hz0] at o1
  refine kk H1 ?_ (nw_S hS (by omega) o1)
  rw [← List.append_assoc]
  refine hP.push ?_ (by rw [z1, hz0]) o1
  rw [← hP.2, hz0]
  exact ⟨_, hc, (u_born ty ht hin hKn hkC e1 hty).to hfs⟩
theorem nw_newa (hexec : p.tables.exec = Jvm.exec) (hb : c.code = cc) (ht : ∀ w ∈ lwg, w.before args s = true) (hSt : StI G s) (hh : pre.length = h) (hP : gP G (pre ++ xs) H) (hS : va_S (upA G) s.heap H locs) {x : Int32} {N : Nat} (hx : ¬ x < 0 ∧ x.toNatClampNeg = N ∧ N * 4 ≤ 536870912) (n : Nat) (hn : xs.length = n) (hcells : cells + 1 ≤ R.cells) (hslots : slots + N ≤ R.slots) (hdg : decode cc pc = .ok (.newarray .int, 2))
    (kk : ∀ H1 : Heap, gP G (pre ++ (xs ++ [.inl (G.2.2.1.1, N, .inl (fun _ => 0))])) H1 → va_S (upA G) s.heap H1 locs → W p l e R s m args below meth c H1 locs (cells + 1) (slots + N) Q (F0 m (pc + 2) ls (.ref (G.1 + (h + n)) :: rest))) : W p l e R s m args below meth c H locs cells slots Q (F0 m pc ls (.int x :: rest)) := by
  have hz0 : H.size = G.1 + (h + n) := by rw [hP.2, List.length_append, hh, hn]
  refine va_newaK (atype := .int) hexec hb (ht _ wa_60) rfl hdg rfl hx.1 hx.2.1 hx.2.2 hcells hslots hz0 fun H1 cA e1 z1 o1 hAr hNm => ?_
  have hcA : cA = G.2.2.1.1 := Option.some.inj (hNm.symm.trans (hSt.1.1.2 0 _ rfl).2)
  subst hcA
  rw [← hz0] at o1
  refine kk H1 ?_ (nw_S hS (by omega) o1)
  rw [← List.append_assoc]
  refine hP.push ?_ (by rw [z1, hz0]) o1
  rw [← hP.2, hz0]
  exact e1
theorem nw_newq (hexec : p.tables.exec = Jvm.exec) (hb : c.code = cc) {own C : String} {index : Nat} (hown : s.vm.findClass own = some m.cls) (hclink : (Cond.classLink own index C).before args s = true) (hover : va_AO C s) (hSt : StI G s) {cA : ClassId} (t0 : Nat) (hty : (tysA G)[t0]? = some (cA, .object C)) (hh : pre.length = h) (hP : gP G (pre ++ xs) H) (hS : va_S (upA G) s.heap H locs) {x : Int32} {N : Nat} (hx : ¬ x < 0 ∧ x.toNatClampNeg = N ∧ N * 4 ≤ 536870912) (n : Nat) (hn : xs.length = n) (hcells : cells + 1 ≤ R.cells) (hslots : slots + N ≤ R.slots) (hdg : decode cc pc = .ok (.anewarray index, 3))
    (kk : ∀ H1 : Heap, gP G (pre ++ (xs ++ [.inl (cA, N, .inr (.inr (.inr (.inr (fun _ => none)))))])) H1 → va_S (upA G) s.heap H1 locs → W p l e R s m args below meth c H1 locs (cells + 1) (slots + N) Q (F0 m (pc + 3) ls (.ref (G.1 + (h + n)) :: rest))) : W p l e R s m args below meth c H locs cells slots Q (F0 m pc ls (.int x :: rest)) := by
  obtain ⟨hx1, hx2, hx3⟩ := hx
  subst hx2
  have hz0 : H.size = G.1 + (h + n) := by rw [hP.2, List.length_append, hh, hn]
  refine W.anew hexec hb hown hclink (va_AO.use hover) rfl hdg rfl hx1 hx3 hcells hslots fun cA' kA comp f1 f2 f3 f4 => ?_
  obtain ⟨kB, compB, g1, g2, g3, g4⟩ := (hSt.1.1.2 t0 _ hty).2
  have hcA : cA' = cA := Option.some.inj (f1.symm.trans g4)
  subst hcA
  generalize hH1 : H.push ({ cls := cA', slots := Array.replicate x.toNatClampNeg .null, vm := .none } : Cell) = H1
  have z1 : H1.size = H.size + 1 := by rw [← hH1, Array.size_push]
  have e1 : H1[H.size]? = some (arrV cA' x.toNatClampNeg (fun _ => .null)) := by rw [← hH1, Array.getElem?_push_size, ← arrV_new]
  have o1 : ∀ q : Nat, q < H.size → H1[q]? = H[q]? := fun q hq => by rw [← hH1, Array.getElem?_push, if_neg (Nat.ne_of_lt hq)]
  have k1 := kk H1 (by
    rw [← List.append_assoc]
    refine hP.push ?_ z1 o1
    rw [← hP.2]
    exact e1) (nw_S hS (by omega) o1)
  rw [← hz0] at k1
  exact k1
theorem nw_putF (hexec : p.tables.exec = Jvm.exec) (hb : c.code = cc) {own C : String} {T : u_T} {N ci index : Nat} (ht : ∀ w ∈ lwg, w.before args s = true) (hin : ∀ w ∈ u_ws C T N, w ∈ lwg) (ty0 : Nat → FieldType) (hty : ∀ k, k < N → parseFieldDescriptor (T k).2.2.1 = some (ty0 k)) (hnm : ∀ a, a < N → ∀ b, b < N → a ≠ b → (T a).2.1 ≠ (T b).2.1) (hown : s.vm.findClass own = some m.cls) (hSt : StI G s) (hh : pre.length = h) (hP : gP G (pre ++ xs) H) (hS0 : va_S (upA G) s.heap H locs) (q0 : Nat) {fs : List Value} (he : xs[q0]? = some (.inr (ci, fs))) (hc : clsA[ci]? = some (C, T, N)) (k : Nat) (hk : k < N) (hlink : (Cond.fieldLink own index (T k).1 (T k).2.1 (T k).2.2.1).before args s = true) (hfin : (T k).2.2.2 = true) (hin2 : meth.name = "<init>") (hdecl : (T k).1 = own) {ty : FieldType} {v : Value} (hd : parseFieldDescriptor (T k).2.2.1 = some ty) (hn : narrow ty v = v) (hfit : fits ty v = true) (hl : k < fs.length)
    (hdg : decode cc pc = .ok (.putfield index, 3)) (kk : ∀ (H1 : Heap) (locs1 : List Loc), gP G (pre ++ xs.set q0 (.inr (ci, fs.set k v))) H1 → va_S (upA G) s.heap H1 locs1 → W p l e R s m args below meth c H1 locs1 cells slots Q (F0 m (pc + 3) ls rest)) : W p l e R s m args below meth c H locs cells slots Q (F0 m pc ls (v :: .ref (G.1 + (h + q0)) :: rest)) := by
  subst hh
  have hap := va_apart (own := own) ht hin ty0 hty hnm hSt.1.1 hc
  have he' := (pre_at pre xs q0).trans he
  obtain ⟨r, h1, cell, q1, q2, q3, q4⟩ := hP.1 _ _ he'
  have hr : r = (C, T, N) := Option.some.inj (h1.symm.trans hc)
  subst hr
  obtain ⟨hS, hfc, kC, hkC, hkind⟩ := hSt.1.1.1 ci _ hc
  obtain ⟨cf, kf, fi, f, hi, hsl⟩ := hS k hk
  have hlay := ht _ (hin _ (u_in_lay hk))
  unfold u_lay at hlay
  rw [if_pos hfin] at hlay
  have hst := (u_facts hfc hkC (u_lays ht hin hk) hi).1
  have hcf : m.cls = cf := by
    obtain ⟨_, _, c', _, _, _, -, -, hf', -, -, -, hown2, -⟩ := Cond.laysFinal_spec hlay
    have e1 : c' = cf := by have := hi.symm.trans hf'; simp at this; exact this.1.symm
    rw [hdecl] at hown2
    rw [← e1]; exact Option.some.inj (hown.symm.trans hown2)
  have h6 := u_fits hfc hkC hkind (Or.inr hlay) hi hd hn hfit
  refine W.putFinK hexec hb hown hlink hi hst hcf hin2 (by rw [q2]; exact h6) q1 q3 (by rw [hsl]; exact k2_hasslot (q4 k hk)) rfl rfl hdg fun H' e1 e2 e3 => ?_
  rw [hsl] at e1 ⊢
  refine kk H' _ ?_ (hS0.put e2 e3 (Nat.le_add_right _ _))
  rw [← pre_set]
  exact hP.set he' ⟨_, hc, t_OB.to (V := updV (vp_V fs) k v) ⟨_, e1, q2, q3, t_set q4 hap hk v⟩ (fun j _ => vp_updV_set hl v j)⟩ e2 e3
theorem nw_put (hexec : p.tables.exec = Jvm.exec) (hb : c.code = cc) {own C : String} {T : u_T} {N ci index : Nat} (ht : ∀ w ∈ lwg, w.before args s = true) (hin : ∀ w ∈ u_ws C T N, w ∈ lwg) (ty0 : Nat → FieldType) (hty : ∀ k, k < N → parseFieldDescriptor (T k).2.2.1 = some (ty0 k)) (hnm : ∀ a, a < N → ∀ b, b < N → a ≠ b → (T a).2.1 ≠ (T b).2.1) (hown : s.vm.findClass own = some m.cls) (hSt : StI G s) (hh : pre.length = h) (hP : gP G (pre ++ xs) H) (hS0 : va_S (upA G) s.heap H locs) (q0 : Nat) {fs : List Value} (he : xs[q0]? = some (.inr (ci, fs))) (hc : clsA[ci]? = some (C, T, N)) (k : Nat) (hk : k < N) (hlink : (Cond.fieldLink own index (T k).1 (T k).2.1 (T k).2.2.1).before args s = true) (hfin : (T k).2.2.2 = false) {ty : FieldType} {v : Value} (hd : parseFieldDescriptor (T k).2.2.1 = some ty) (hn : narrow ty v = v) (hfit : fits ty v = true) (hl : k < fs.length)
    (hdg : decode cc pc = .ok (.putfield index, 3)) (kk : ∀ (H1 : Heap) (locs1 : List Loc), gP G (pre ++ xs.set q0 (.inr (ci, fs.set k v))) H1 → va_S (upA G) s.heap H1 locs1 → W p l e R s m args below meth c H1 locs1 cells slots Q (F0 m (pc + 3) ls rest)) : W p l e R s m args below meth c H locs cells slots Q (F0 m pc ls (v :: .ref (G.1 + (h + q0)) :: rest)) := by
  subst hh
  have hap := va_apart (own := own) ht hin ty0 hty hnm hSt.1.1 hc
  have he' := (pre_at pre xs q0).trans he
  obtain ⟨r, h1, cell, q1, q2, q3, q4⟩ := hP.1 _ _ he'
  have hr : r = (C, T, N) := Option.some.inj (h1.symm.trans hc)
  subst hr
  obtain ⟨hS, hfc, kC, hkC, hkind⟩ := hSt.1.1.1 ci _ hc
  obtain ⟨cf, kf, fi, f, hi, hsl⟩ := hS k hk
  have hlay := ht _ (hin _ (u_in_lay hk))
  unfold u_lay at hlay
  rw [if_neg (by rw [hfin]; decide)] at hlay
  have hst := (u_facts hfc hkC (u_lays ht hin hk) hi).1
  have h6 := u_store hfc hkC hkind hlay hi hd hn hfit
  refine W.putK hexec hb (f := f) ⟨hown, hlink, ⟨_, _, _, hi⟩, hst⟩ (by rw [q2]; exact h6) q1 q3 (by rw [hsl]; exact k2_hasslot (q4 k hk)) rfl rfl hdg fun H' e1 e2 e3 => ?_
  rw [hsl] at e1 ⊢
  refine kk H' _ ?_ (hS0.put e2 e3 (Nat.le_add_right _ _))
  rw [← pre_set]
  exact hP.set he' ⟨_, hc, t_OB.to (V := updV (vp_V fs) k v) ⟨_, e1, q2, q3, t_set q4 hap hk v⟩ (fun j _ => vp_updV_set hl v j)⟩ e2 e3
theorem nw_get (hexec : p.tables.exec = Jvm.exec) (hb : c.code = cc) {own C : String} {T : u_T} {N ci index : Nat} (ht : ∀ w ∈ lwg, w.before args s = true) (hin : ∀ w ∈ u_ws C T N, w ∈ lwg) (hown : s.vm.findClass own = some m.cls) (hSt : StI G s) (hh : pre.length = h) (hP : gP G (pre ++ xs) H) (q0 : Nat) {fs : List Value} (he : xs[q0]? = some (.inr (ci, fs))) (hc : clsA[ci]? = some (C, T, N)) (k : Nat) (hk : k < N) (hlink : (Cond.fieldLink own index (T k).1 (T k).2.1 (T k).2.2.1).before args s = true) {v : Value} (hv : fs[k]? = some v) (hdg : decode cc pc = .ok (.getfield index, 3))
    (kk : W p l e R s m args below meth c H locs cells slots Q (F0 m (pc + 3) ls (v :: rest))) : W p l e R s m args below meth c H locs cells slots Q (F0 m pc ls (.ref (G.1 + (h + q0)) :: rest)) := by
  subst hh
  obtain ⟨r, h1, cell, q1, q2, q3, q4⟩ := hP.1 _ _ ((pre_at pre xs q0).trans he)
  have hr : r = (C, T, N) := Option.some.inj (h1.symm.trans hc)
  subst hr
  obtain ⟨hS, hfc, kC, hkC, hkind⟩ := hSt.1.1.1 ci _ hc
  obtain ⟨cf, kf, fi, f, hi, hsl⟩ := hS k hk
  refine W.getf hexec hb hown hlink hi (u_facts hfc hkC (u_lays ht hin hk) hi).1 q1 (by rw [q3]; exact fun h => by cases h) (v := v) ?_ rfl rfl hdg kk
  rw [hsl, q4 k hk]
  simp [vp_V, hv]
theorem nw_aast (hexec : p.tables.exec = Jvm.exec) (hb : c.code = cc) (hSt : StI G s) (hh : pre.length = h) (hP : gP G (pre ++ xs) H) (hS : va_S (upA G) s.heap H locs) (q0 t0 qk ci : Nat) {cA : ClassId} {r : vw_C} {n : Nat} {vs : List Value} {f : Nat → Option Nat} (ha : xs[q0]? = some (.inl (cA, n, .inr (.inr (.inr (.inr f)))))) (hty : (tysA G)[t0]? = some (cA, .object r.1)) (hv : xs[qk]? = some (.inr (ci, vs))) (hc : clsA[ci]? = some r) {i : Int32} (hin : vp_in i n) (j : Nat) (hj : i.toNatClampNeg = j) (hdg : decode cc pc = .ok (.aastore, 1))
    (kk : ∀ (H1 : Heap) (locs1 : List Loc), gP G (pre ++ xs.set q0 (.inl (cA, n, .inr (.inr (.inr (.inr (va_up f j (some (G.1 + (h + qk)))))))))) H1 → va_S (upA G) s.heap H1 locs1 → W p l e R s m args below meth c H1 locs1 cells slots Q (F0 m (pc + 1) ls rest)) : W p l e R s m args below meth c H locs cells slots Q (F0 m pc ls (.ref (G.1 + (h + qk)) :: .int i :: .ref (G.1 + (h + q0)) :: rest)) := by
  subst hh
  subst hj
  have hK := hSt.1.1
  have hlt : i.toNatClampNeg < n := Nat.not_le.mp fun q => hin (Or.inr q)
  have h0 : ¬ i < 0 := fun q => hin (Or.inl q)
  have ha' := (pre_at pre xs q0).trans ha
  obtain ⟨r', hr', cellV, g1, g2, g3, -⟩ := hP.1 _ _ ((pre_at pre xs qk).trans hv)
  have hcls := (hK.1 ci r hc).2
  obtain ⟨kA, comp, k1, k2, k3, -⟩ := (hK.2 t0 _ hty).2
  have hcomp : comp = G.2.1.1 ci := Option.some.inj (k3.symm.trans hcls.1)
  subst hcomp
  obtain ⟨kC, hkC, -⟩ := hcls.2
  refine W.aast hexec hb (hP.1 _ _ ha') (fun q h => by cases h) (fun h => by cases h) k1 k2 rfl hkC ⟨h0, by show _ < (arrV _ _ _).slots.size; rw [arrV_size]; exact hlt⟩ g1 (fun q h => by rw [g3] at h; cases h) (by rw [g2]; exact hkC) (by rw [g2]; exact va_assign hcls) rfl rfl hdg fun H1 e z oq => ?_
  refine kk H1 _ ?_ (hS.put z oq (Nat.le_add_right _ _))
  rw [← pre_set]
  refine hP.set ha' ?_ z oq
  show H1[G.1 + (pre.length + q0)]? = some (vp_cell _ _)
  rw [e]
  rw [vp_cell_q, vp_cell_q, arrV_store]
  congr 2
  funext q
  by_cases hq : q = i.toNatClampNeg
  · subst hq
    simp [updV, va_up, va_rf]
  · simp [updV, va_up, hq]
theorem nw_iast (hexec : p.tables.exec = Jvm.exec) (hb : c.code = cc) (hSt : StI G s) (hh : pre.length = h) (hP : gP G (pre ++ xs) H) (hS : va_S (upA G) s.heap H locs) (q0 : Nat) {n : Nat} {f : Nat → Int32} (ha : xs[q0]? = some (.inl (G.2.2.1.1, n, .inl f))) {i x : Int32} (hin : vp_in i n) (j : Nat) (hj : i.toNatClampNeg = j) (hdg : decode cc pc = .ok (.iastore, 1))
    (kk : ∀ (H1 : Heap) (locs1 : List Loc), gP G (pre ++ xs.set q0 (.inl (G.2.2.1.1, n, .inl (upd f j x)))) H1 → va_S (upA G) s.heap H1 locs1 → W p l e R s m args below meth c H1 locs1 cells slots Q (F0 m (pc + 1) ls rest)) : W p l e R s m args below meth c H locs cells slots Q (F0 m pc ls (.int x :: .int i :: .ref (G.1 + (h + q0)) :: rest)) := by
  subst hh
  subst hj
  have ha' := (pre_at pre xs q0).trans ha
  refine W.iast hexec hb (hP.1 _ _ ha') ((hSt.1.1.2 0 _ rfl).1 n (fun j => .int (f j))) (fun q => by cases q) (by show ¬ (i < 0 ∨ (arrV _ _ _).slots.size ≤ _); rw [arrV_size]; exact hin) rfl rfl hdg fun H1 e z oq => ?_
  refine kk H1 _ ?_ (hS.put z oq (Nat.le_add_right _ _))
  rw [← pre_set]
  refine hP.set ha' ?_ z oq
  show H1[G.1 + (pre.length + q0)]? = some (vp_cell _ _)
  rw [e]
  rw [vp_cell_i, vp_cell_i, arrV_store]
  congr 2
  funext q
  by_cases hq : q = i.toNatClampNeg
  · subst hq
    simp [updV, upd]
  · simp [updV, upd, hq]
theorem nw_back {ws' : List va_E} {mc ms : Nat} {a : Array Value} {st0 : List Value} (hr : va_Run p l e R s m args below meth c H locs cells slots mc ms (F0 m pc ls st0) rest (Pn G ws' a) (upA G)) (hS : va_S (upA G) s.heap H locs)
    (kk : ∀ (H1 : Heap) (locs1 : List Loc), gP G ws' H1 → va_S (upA G) s.heap H1 locs1 → W p l e R s m args below meth c H1 locs1 (cells + mc) (slots + ms) Q (F0 m (pc + 3) ls rest)) : W p l e R s m args below meth c H locs cells slots Q (F0 m pc ls st0) := by
  intro T hT X
  obtain ⟨v, st₀, t, T', L, h0, X', hL, e1, e2, ⟨⟨hv, hw⟩, hz, hk⟩, st⟩ := hr T hT X
  cases hv
  rw [h0] at hz hk
  obtain ⟨t2, a1, b1⟩ := kk T'.heap (locs ++ L) (by rw [e1]; exact hw.1) ⟨Nat.le_trans hS.1 (by rw [e1]; exact hz), fun q h1 h2 => by rw [e1, hk q (Nat.lt_of_lt_of_le h1 hS.1) h2]; exact hS.2.1 q h1 h2, fun q hq => by
      rcases List.mem_append.mp hq with h | h
      · exact hS.2.2 q h
      · exact hL q h⟩ T' rfl X'
  exact ⟨t2, st t2 a1, b1⟩
variable {y : MethodName} {bytes : ByteArray} {maxL nL index n mc ms : Nat} {rm : Room} {own host : String} {As : List Value} {c0 : Cond} {b : Nat} {e0 : va_E} {zs : List va_E}
theorem nw_I (S : CallFix p m c cc nL s args (c0 :: lwg) own) (hM : Cn l G y bytes maxL rm (.ref b :: As) ((pre ++ xs) ++ [e0]) ((pre ++ xs) ++ zs) mc ms)
    (h1 : Cond.methodLink own index y ∈ lwg) (h2 : Cond.instanceMethod y ∈ lwg) (h4 : Cond.initialized y.cls ∈ lwg) (h5 : Cond.code y bytes maxL none ∈ lwg) (hy1 : y.name = "<init>")
    (hd : y.cls ≠ "java/lang/invoke/MethodHandle" ∧ y.cls ≠ "java/lang/invoke/VarHandle" ∧ (parseMethodDescriptor y.desc).map (fun d => d.parameters.length) = some n) (hR : rm.frames + 1 ≤ R.frames ∧ 8 + (maxL + 11) + rm.locals ≤ R.locals) (hR0 : rm.cells = mc ∧ rm.slots = ms)
    (hSt : StI G s) (hP : gP G (pre ++ (xs ++ [e0])) H) (hS : va_S (upA G) s.heap H locs)
    (hn : As.length = n) (hsize : ls.size = nL) {st0 : List Value} (hstack : st0 = As.reverse ++ .ref b :: rest) (hW : (rest.map fun v => v.category).sum ≤ 8) (hdg : decode cc pc = .ok (.invokespecial index, 3)) (hf : cells + mc ≤ R.cells ∧ slots + ms ≤ R.slots)
    (kk : ∀ (H1 : Heap) (locs1 : List Loc), gP G (pre ++ (xs ++ zs)) H1 → va_S (upA G) s.heap H1 locs1 → W p l e R s m args below meth c H1 locs1 (cells + mc) (slots + ms) Q (F0 m (pc + 3) ls rest)) : W p l e R s m args below meth c H locs cells slots Q (F0 m pc ls st0) := by
  subst hstack
  have ok : ∀ w ∈ lwg, w.before args s = true := fun w h => S.2.2.2.2 w (List.mem_cons_of_mem _ h)
  rw [← List.append_assoc] at hP kk
  exact nw_back (va_runI (As := As) (rest := rest) S hM (cwI n S.2.2.2.2 (goodIn_lwg h5) rfl hR0.1 hR0.2 (ok _ h4) (ok _ h1) (ok _ h2) hy1 hd hR) ⟨Wg.blind G _ _, fun U hU hW => ⟨rfl, by rw [hU]; exact hP, hSt.warm hW⟩⟩ rfl hn hsize rfl (lv_room hW) hdg hf) hS kk
theorem nw_IN (S : CallFix p m c cc nL s args (c0 :: lwg) own) (hM : Cn l G y bytes maxL rm (.ref b :: As) ((pre ++ xs) ++ [e0]) ((pre ++ xs) ++ zs) mc ms)
    (h1 : Cond.methodLinkNest own index y host ∈ nestW) (h2 : Cond.instanceMethod y ∈ lwg) (h4 : Cond.initialized y.cls ∈ lwg) (h5 : Cond.code y bytes maxL none ∈ lwg) (hy1 : y.name = "<init>")
    (hd : y.cls ≠ "java/lang/invoke/MethodHandle" ∧ y.cls ≠ "java/lang/invoke/VarHandle" ∧ (parseMethodDescriptor y.desc).map (fun d => d.parameters.length) = some n) (hR : rm.frames + 1 ≤ R.frames ∧ 8 + (maxL + 11) + rm.locals ≤ R.locals) (hR0 : rm.cells = mc ∧ rm.slots = ms)
    (hSt : StI G s) (hP : gP G (pre ++ (xs ++ [e0])) H) (hS : va_S (upA G) s.heap H locs)
    (hn : As.length = n) (hsize : ls.size = nL) {st0 : List Value} (hstack : st0 = As.reverse ++ .ref b :: rest) (hW : (rest.map fun v => v.category).sum ≤ 8) (hdg : decode cc pc = .ok (.invokespecial index, 3)) (hf : cells + mc ≤ R.cells ∧ slots + ms ≤ R.slots)
    (kk : ∀ (H1 : Heap) (locs1 : List Loc), gP G (pre ++ (xs ++ zs)) H1 → va_S (upA G) s.heap H1 locs1 → W p l e R s m args below meth c H1 locs1 (cells + mc) (slots + ms) Q (F0 m (pc + 3) ls rest)) : W p l e R s m args below meth c H locs cells slots Q (F0 m pc ls st0) := by
  subst hstack
  have ok : ∀ w ∈ lwg, w.before args s = true := fun w h => S.2.2.2.2 w (List.mem_cons_of_mem _ h)
  rw [← List.append_assoc] at hP kk
  exact nw_back (va_runIN (As := As) (rest := rest) S hM ⟨va_cnB n S.2.2.2.2 (goodIn_lwg h5) rfl hR0.1 hR0.2 (hSt.1.2 _ h1) (ok _ h4) hd hR, hy1, ok _ h2⟩ ⟨Wg.blind G _ _, fun U hU hW => ⟨rfl, by rw [hU]; exact hP, hSt.warm hW⟩⟩ rfl hn hsize rfl (lv_room hW) hdg hf) hS kk
end NEW
