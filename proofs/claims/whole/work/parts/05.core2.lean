def irm (x y : Int32) : Int32 := x - x / y * y
def ius (x y : Int32) : Int32 := (x.toUInt32 >>> (y.toUInt32 &&& Int32.toUInt32 31)).toInt32
def lus (x : Int64) (y : Int32) : Int64 := (x.toUInt64 >>> (y.toInt64.toUInt64 &&& Int64.toUInt64 63)).toInt64
def lsl' (x : Int64) (y : Int32) : Int64 := x <<< (y.toInt64 &&& 63)
def lsr' (x : Int64) (y : Int32) : Int64 := x >>> (y.toInt64 &&& 63)
def ish (x y : Int32) : Int32 := x <<< (y &&& 31)
def isr (x y : Int32) : Int32 := x >>> (y &&& 31)
def imx (x y : Int32) : Int32 := if x < y then y else x
def imn (x y : Int32) : Int32 := if y < x then y else x
def iab (x : Int32) : Int32 := if 0 ≤ x then x else 0 - x
def isb (x : Int32) : Prop := x = 0 ∨ x = 1
theorem isb.narrow {x : Int32} (h : isb x) : narrow .boolean (.int x) = .int x := by
  rcases h with rfl | rfl <;> decide
theorem isb.fits {x : Int32} (h : isb x) : fits .boolean (.int x) = true := by
  rcases h with rfl | rfl <;> decide
def Ev (p : Program) (s : State) (m : MethodId) (args : Array Value) (meth : Method) (c : Code) (G : Gm) (own : String) (cc : ByteArray) (nL : Nat) (ret : Option FieldType) (c0 : Cond) : Prop :=
  p.tables.exec = Jvm.exec ∧ c.code = cc ∧ c.maxLocals = nL ∧ s.vm.findClass own = some m.cls ∧ (∀ w ∈ (c0 :: lwg), w.before args s = true) ∧ (∀ w ∈ lwg, w.before args s = true) ∧ meth.sig.returnType = ret ∧ meth.locks = false ∧ Stt G s ∧ Tbs G s s.heap
theorem ct_of {l : Launch} {G : Gm} {y : MethodName} {bytes : ByteArray} {maxL : Nat} {ret : Option FieldType} {rm : Room} {av : List Value} {M : Mem} {Q : Option Value → Mem → Prop} (hy : plainName y.cls = true) (hen : (lg_sl av).length ≤ maxL)
    (body : ∀ (p : Program) (e : Env) (s : State) (m : MethodId) (below : List Frame) (meth : Method) (c : Code), Ev p s m av.toArray meth c G y.cls bytes maxL ret (Cond.code y bytes maxL ret) → ∀ (ls : Array Slot) (H : Heap), lv_has ls maxL (lv_args 0 av) → va_P G.2.1 clsA (wl G M) H → va_S (inW G) s.heap H [] → W p l e rm s m av.toArray below meth c H [] 0 0 (MQ below (Pq G Q) av.toArray s 0 0 (inW G)) (F0 m 0 ls [])) : Ct l G y bytes maxL ret rm av M Q := by
  refine Met.ofW (cc := bytes) (maxL := maxL) (ret := ret) hy rfl ?_
  intro p e s m args below meth c s₁ B hml hv
  obtain ⟨rfl, hP, hSt, hTb⟩ := hv
  have hts := atoms_spec (ws := Cond.code y bytes maxL ret :: lwg) B.pre
  have hl := lv_entry av (n := maxL) hen
  rw [lg_entry_eq]
  exact body p e s m below meth c ⟨B.exec, B.bytes, hml, findClass_of_methodNamed B.named, hts, fun w h => hts w (List.mem_cons_of_mem _ h), B.returns, B.notSynchronized, hSt, hTb⟩ _ s.heap hl hP va_S.rf
section SWI
variable {p : Program} {l : Launch} {e : Env} {R : Room} {s : State} {m : MethodId} {args : Array Value} {below : List Frame} {meth : Method} {c : Code} {H : Heap} {locs : List Loc} {cells slots : Nat} {Q : State → Prop}
variable {cc : ByteArray} {pc : Nat} {ls : Array Slot} {rest : List Value}
theorem mw_tcase (hexec : p.tables.exec = Jvm.exec) (hb : c.code = cc) {dflt lo hi : Int} {offs : Array Int} {len : Nat} {x k : Int32} {off : Int} {tgt : Nat} (hdg : decode cc pc = .ok (.tableswitch dflt lo hi offs, len)) (hk : x = k) (h : ¬ k.toInt < lo ∧ ¬ hi < k.toInt ∧ offs[(k.toInt - lo).toNat]? = some off ∧ (pc : Int) + off = (tgt : Int))
    (kk : W p l e R s m args below meth c H locs cells slots Q (F0 m tgt ls rest)) : W p l e R s m args below meth c H locs cells slots Q (F0 m pc ls (.int x :: rest)) := by
  subst hk
  exact lv_tableIn hexec hb hdg h.1 h.2.1 h.2.2.1 h.2.2.2 kk
theorem mw_tdef (hexec : p.tables.exec = Jvm.exec) (hb : c.code = cc) {dflt lo hi : Int} {offs : Array Int} {len : Nat} {x : Int32} (keys : List Int32) {tgt : Nat} (hdg : decode cc pc = .ok (.tableswitch dflt lo hi offs, len)) (hk : ∀ k ∈ keys, ¬ x = k) (h : ∀ j : Nat, j < (hi + 1 - lo).toNat → (lo + j) ∈ keys.map Int32.toInt ∨ offs[j]? = some dflt) (ht : (pc : Int) + dflt = (tgt : Int))
    (kk : W p l e R s m args below meth c H locs cells slots Q (F0 m tgt ls rest)) : W p l e R s m args below meth c H locs cells slots Q (F0 m pc ls (.int x :: rest)) := by
  by_cases h1 : x.toInt < lo
  · exact lv_tableOut hexec hb hdg (Or.inl h1) ht kk
  · by_cases h2 : hi < x.toInt
    · exact lv_tableOut hexec hb hdg (Or.inr h2) ht kk
    · have hj : (x.toInt - lo).toNat < (hi + 1 - lo).toNat := by omega
      rcases h _ hj with q | q
      · obtain ⟨k, hk1, hk2⟩ := List.mem_map.mp q
        exact absurd (Int32.toInt_inj.mp (show x.toInt = k.toInt by omega)) (hk k hk1)
      · exact lv_tableIn hexec hb hdg h1 h2 q ht kk
theorem mw_lcase (hexec : p.tables.exec = Jvm.exec) (hb : c.code = cc) {dflt : Int} {ps : Array (Int × Int)} {len : Nat} {x k : Int32} {off : Int} {tgt : Nat} (hdg : decode cc pc = .ok (.lookupswitch dflt ps, len)) (hk : x = k) (h : (ps.toList.zip (ps.toList.drop 1)).all (fun (a, next) => a.1 < next.1) = true) (h2 : Op.lookupswitch.offset ps.toList dflt k.toInt = off ∧ (pc : Int) + off = (tgt : Int))
    (kk : W p l e R s m args below meth c H locs cells slots Q (F0 m tgt ls rest)) : W p l e R s m args below meth c H locs cells slots Q (F0 m pc ls (.int x :: rest)) := by
  subst hk
  exact lv_lookup hexec hb hdg h h2.1 h2.2 kk
theorem lk_def : ∀ (ps : List (Int × Int)) (keys : List Int32) (dflt : Int) (x : Int32), ps.map (fun q => q.1) = keys.map Int32.toInt → (∀ k ∈ keys, ¬ x = k) → Op.lookupswitch.offset ps dflt x.toInt = dflt
  | [], _, _, _, _, _ => rfl
  | (a, o) :: ps, [], dflt, x, h, _ => by simp at h
  | (a, o) :: ps, k :: keys, dflt, x, h, hk => by
    simp only [List.map_cons, List.cons.injEq] at h
    rw [Op.lookupswitch.offset_cons, if_neg (fun q => hk k List.mem_cons_self (Int32.toInt_inj.mp (q.symm.trans h.1)))]
    exact lk_def ps keys dflt x h.2 (fun k' h' => hk k' (List.mem_cons_of_mem _ h'))
theorem mw_ldef (hexec : p.tables.exec = Jvm.exec) (hb : c.code = cc) {dflt : Int} {ps : Array (Int × Int)} {len : Nat} {x : Int32} (keys : List Int32) {tgt : Nat} (hdg : decode cc pc = .ok (.lookupswitch dflt ps, len)) (hk : ∀ k ∈ keys, ¬ x = k) (h : (ps.toList.zip (ps.toList.drop 1)).all (fun (a, next) => a.1 < next.1) = true) (h2 : ps.toList.map (fun q => q.1) = keys.map Int32.toInt) (ht : (pc : Int) + dflt = (tgt : Int))
    (kk : W p l e R s m args below meth c H locs cells slots Q (F0 m tgt ls rest)) : W p l e R s m args below meth c H locs cells slots Q (F0 m pc ls (.int x :: rest)) :=
  lv_lookup hexec hb hdg h (lk_def _ keys _ _ h2 hk) ht kk
theorem mw_tlen (hexec : p.tables.exec = Jvm.exec) (hb : c.code = cc) {ty : FieldType} {t N : Nat} {f : Nat → Value} {A : Nat → Prop} (hT : va_T ty t N f A s s.heap) (hS : va_S A s.heap H locs) (hdg : decode cc pc = .ok (.arraylength, 1))
    (kk : W p l e R s m args below meth c H locs cells slots Q (F0 m (pc + 1) ls (.int (nI N) :: rest))) : W p l e R s m args below meth c H locs cells slots Q (F0 m pc ls (.ref t :: rest)) := by
  obtain ⟨cell, h1, h2, h3, h4, h5, h6, h7⟩ := hT
  exact W.alen (n := nI N) hexec hb (by rw [hS.2.1 t (Array.getElem?_eq_some_iff.mp h1).1 h7]; exact h1) h2 h5 rfl rfl hdg kk
end SWI
section LIT
variable {p : Program} {l : Launch} {e : Env} {R : Room} {s : State} {m : MethodId} {args : Array Value} {below : List Frame} {meth : Method} {c : Code} {H : Heap} {locs : List Loc} {cells slots : Nat} {Q : State → Prop}
variable {cc : ByteArray} {pc : Nat} {ls : Array Slot} {rest : List Value} {G : Gm} {M : Mem}
theorem mw_ialdc (hexec : p.tables.exec = Jvm.exec) (hb : c.code = cc) (hSt : Stt G s) (hP : va_P G.2.1 clsA (wl G M) H) {h n : Nat} (hk : kdT h = 11) (hn : lnT h = n) {i : Int32} (k : Nat) (hin : ¬ (i < 0 ∨ n ≤ i.toNatClampNeg) ∧ i.toNatClampNeg = k) (hdg : decode cc pc = .ok (.iaload, 1))
    (kk : W p l e R s m args below meth c H locs cells slots Q (F0 m (pc + 1) ls (.int (M h k) :: rest))) : W p l e R s m args below meth c H locs cells slots Q (F0 m pc ls (.int i :: .ref (G.1 + h) :: rest)) := by
  obtain ⟨h1, h2⟩ := hin
  subst h2
  exact mw_iald hexec hb hSt hP hk (by rw [hn]; exact h1) hdg kk
theorem mw_iastc (hexec : p.tables.exec = Jvm.exec) (hb : c.code = cc) (hSt : Stt G s) (hP : va_P G.2.1 clsA (wl G M) H) (hS : va_S (inW G) s.heap H locs) {h n : Nat} (hk : kdT h = 11) (hn : lnT h = n) {i x : Int32} (k : Nat) (hin : ¬ (i < 0 ∨ n ≤ i.toNatClampNeg) ∧ i.toNatClampNeg = k) (hdg : decode cc pc = .ok (.iastore, 1))
    (kk : ∀ (M1 : Mem) (H1 : Heap) (locs1 : List Loc), M1 = mu M h k x → va_P G.2.1 clsA (wl G M1) H1 → va_S (inW G) s.heap H1 locs1 → W p l e R s m args below meth c H1 locs1 cells slots Q (F0 m (pc + 1) ls rest)) : W p l e R s m args below meth c H locs cells slots Q (F0 m pc ls (.int x :: .int i :: .ref (G.1 + h) :: rest)) := by
  obtain ⟨h1, h2⟩ := hin
  subst h2
  exact mw_iast hexec hb hSt hP hS hk (by rw [hn]; exact h1) hdg kk
end LIT
theorem wm_RX3_31 : (.methodLink RX3 31 arraycopyName : Cond) ∈ lwg := mem_lwg (i := 498) (by decide +kernel) rfl
theorem wt_arraycopy : (.static arraycopyName : Cond) ∈ lwg := mem_lwg (i := 499) (by decide +kernel) rfl
theorem wna_arraycopy : (.native arraycopyName : Cond) ∈ lwg := mem_lwg (i := 500) (by decide +kernel) rfl

theorem kd_out {h : Nat} (hh : nW ≤ h) : kdT h = 99 := by
  rw [kdT, List.getD_eq_getElem?_getD, List.getElem?_eq_none (show kdL.length ≤ h from hh)]
  rfl
theorem sh_all (P : Nat → Prop) (h1 : ∀ h, h < nW → P h) (h2 : ∀ h, nW ≤ h → P h) (h : Nat) : P h := by
  rcases Nat.lt_or_ge h nW with q | q
  · exact h1 h q
  · exact h2 h q
theorem vp_lt {i : Int32} {n : Nat} (h : vp_in i n) : i.toNatClampNeg < n := Nat.not_le.mp fun q => h (Or.inr q)
theorem ks0_1 {h : Nat} (k : kdT h = 0) : kdT (h + 1) = 3 := sh_all (fun h => kdT h = 0 → kdT (h + 1) = 3) (by decide +kernel) (fun h hh q => absurd (q.symm.trans (kd_out hh)) (by decide)) h k
theorem ks0_2 {h : Nat} (k : kdT h = 0) : kdT (h + 3) = 3 := sh_all (fun h => kdT h = 0 → kdT (h + 3) = 3) (by decide +kernel) (fun h hh q => absurd (q.symm.trans (kd_out hh)) (by decide)) h k
theorem ks1_0 {h : Nat} (k : kdT h = 1) : kdT (h + 1) = 0 := sh_all (fun h => kdT h = 1 → kdT (h + 1) = 0) (by decide +kernel) (fun h hh q => absurd (q.symm.trans (kd_out hh)) (by decide)) h k
theorem ks1_1 {h : Nat} (k : kdT h = 1) : kdT (h + 6) = 0 := sh_all (fun h => kdT h = 1 → kdT (h + 6) = 0) (by decide +kernel) (fun h hh q => absurd (q.symm.trans (kd_out hh)) (by decide)) h k
theorem ks1_2 {h : Nat} (k : kdT h = 1) : kdT (h + 11) = 11 := sh_all (fun h => kdT h = 1 → kdT (h + 11) = 11) (by decide +kernel) (fun h hh q => absurd (q.symm.trans (kd_out hh)) (by decide)) h k
theorem ln1_2 {h : Nat} (k : kdT h = 1) : lnT (h + 11) = 10 := sh_all (fun h => kdT h = 1 → lnT (h + 11) = 10) (by decide +kernel) (fun h hh q => absurd (q.symm.trans (kd_out hh)) (by decide)) h k
theorem ks1_3 {h : Nat} (k : kdT h = 1) : kdT (h + 12) = 12 := sh_all (fun h => kdT h = 1 → kdT (h + 12) = 12) (by decide +kernel) (fun h hh q => absurd (q.symm.trans (kd_out hh)) (by decide)) h k
theorem ln1_3 {h : Nat} (k : kdT h = 1) : lnT (h + 12) = 6 := sh_all (fun h => kdT h = 1 → lnT (h + 12) = 6) (by decide +kernel) (fun h hh q => absurd (q.symm.trans (kd_out hh)) (by decide)) h k
theorem ks1_4 {h : Nat} (k : kdT h = 1) : kdT (h + 13) = 13 := sh_all (fun h => kdT h = 1 → kdT (h + 13) = 13) (by decide +kernel) (fun h hh q => absurd (q.symm.trans (kd_out hh)) (by decide)) h k
theorem ln1_4 {h : Nat} (k : kdT h = 1) : lnT (h + 13) = 7 := sh_all (fun h => kdT h = 1 → lnT (h + 13) = 7) (by decide +kernel) (fun h hh q => absurd (q.symm.trans (kd_out hh)) (by decide)) h k
theorem ks1_5 {h : Nat} (k : kdT h = 1) : kdT (h + 14) = 3 := sh_all (fun h => kdT h = 1 → kdT (h + 14) = 3) (by decide +kernel) (fun h hh q => absurd (q.symm.trans (kd_out hh)) (by decide)) h k
theorem ks2_0 {h : Nat} (k : kdT h = 2) : kdT (h + 1) = 3 := sh_all (fun h => kdT h = 2 → kdT (h + 1) = 3) (by decide +kernel) (fun h hh q => absurd (q.symm.trans (kd_out hh)) (by decide)) h k
theorem ks2_1 {h : Nat} (k : kdT h = 2) : kdT (h + 3) = 3 := sh_all (fun h => kdT h = 2 → kdT (h + 3) = 3) (by decide +kernel) (fun h hh q => absurd (q.symm.trans (kd_out hh)) (by decide)) h k
theorem ks3_0 {h : Nat} (k : kdT h = 3) : kdT (h + 1) = 11 := sh_all (fun h => kdT h = 3 → kdT (h + 1) = 11) (by decide +kernel) (fun h hh q => absurd (q.symm.trans (kd_out hh)) (by decide)) h k
theorem ks6_0 {h : Nat} (k : kdT h = 6) : kdT (h + 1) = 3 := sh_all (fun h => kdT h = 6 → kdT (h + 1) = 3) (by decide +kernel) (fun h hh q => absurd (q.symm.trans (kd_out hh)) (by decide)) h k
theorem ks7_0 {h : Nat} (k : kdT h = 7) : kdT (h + 1) = 3 := sh_all (fun h => kdT h = 7 → kdT (h + 1) = 3) (by decide +kernel) (fun h hh q => absurd (q.symm.trans (kd_out hh)) (by decide)) h k
theorem ks8_0 {h : Nat} (k : kdT h = 8) : kdT (h + 1) = 1 := sh_all (fun h => kdT h = 8 → kdT (h + 1) = 1) (by decide +kernel) (fun h hh q => absurd (q.symm.trans (kd_out hh)) (by decide)) h k
theorem ks8_1 {h : Nat} (k : kdT h = 8) : kdT (h + 30) = 3 := sh_all (fun h => kdT h = 8 → kdT (h + 30) = 3) (by decide +kernel) (fun h hh q => absurd (q.symm.trans (kd_out hh)) (by decide)) h k
theorem ks8_2 {h : Nat} (k : kdT h = 8) : kdT (h + 32) = 3 := sh_all (fun h => kdT h = 8 → kdT (h + 32) = 3) (by decide +kernel) (fun h hh q => absurd (q.symm.trans (kd_out hh)) (by decide)) h k
theorem ks9_0 {h : Nat} (k : kdT h = 9) : kdT (h + 1) = 8 := sh_all (fun h => kdT h = 9 → kdT (h + 1) = 8) (by decide +kernel) (fun h hh q => absurd (q.symm.trans (kd_out hh)) (by decide)) h k
theorem ks9_1 {h : Nat} (k : kdT h = 9) : kdT (h + 35) = 8 := sh_all (fun h => kdT h = 9 → kdT (h + 35) = 8) (by decide +kernel) (fun h hh q => absurd (q.symm.trans (kd_out hh)) (by decide)) h k
theorem ks9_2 {h : Nat} (k : kdT h = 9) : kdT (h + 69) = 1 := sh_all (fun h => kdT h = 9 → kdT (h + 69) = 1) (by decide +kernel) (fun h hh q => absurd (q.symm.trans (kd_out hh)) (by decide)) h k
theorem ks9_3 {h : Nat} (k : kdT h = 9) : kdT (h + 98) = 2 := sh_all (fun h => kdT h = 9 → kdT (h + 98) = 2) (by decide +kernel) (fun h hh q => absurd (q.symm.trans (kd_out hh)) (by decide)) h k
theorem ks9_4 {h : Nat} (k : kdT h = 9) : kdT (h + 103) = 7 := sh_all (fun h => kdT h = 9 → kdT (h + 103) = 7) (by decide +kernel) (fun h hh q => absurd (q.symm.trans (kd_out hh)) (by decide)) h k
theorem ks9_5 {h : Nat} (k : kdT h = 9) : kdT (h + 106) = 14 := sh_all (fun h => kdT h = 9 → kdT (h + 106) = 14) (by decide +kernel) (fun h hh q => absurd (q.symm.trans (kd_out hh)) (by decide)) h k
theorem ln9_5 {h : Nat} (k : kdT h = 9) : lnT (h + 106) = 4 := sh_all (fun h => kdT h = 9 → lnT (h + 106) = 4) (by decide +kernel) (fun h hh q => absurd (q.symm.trans (kd_out hh)) (by decide)) h k
theorem ks9_6 {h : Nat} (k : kdT h = 9) : kdT (h + 107) = 11 := sh_all (fun h => kdT h = 9 → kdT (h + 107) = 11) (by decide +kernel) (fun h hh q => absurd (q.symm.trans (kd_out hh)) (by decide)) h k
theorem ln9_6 {h : Nat} (k : kdT h = 9) : lnT (h + 107) = 6 := sh_all (fun h => kdT h = 9 → lnT (h + 107) = 6) (by decide +kernel) (fun h hh q => absurd (q.symm.trans (kd_out hh)) (by decide)) h k
theorem ks10_0 {h : Nat} (k : kdT h = 10) : kdT (h + 1) = 11 := sh_all (fun h => kdT h = 10 → kdT (h + 1) = 11) (by decide +kernel) (fun h hh q => absurd (q.symm.trans (kd_out hh)) (by decide)) h k
theorem ln10_0 {h : Nat} (k : kdT h = 10) : lnT (h + 1) = 242 := sh_all (fun h => kdT h = 10 → lnT (h + 1) = 242) (by decide +kernel) (fun h hh q => absurd (q.symm.trans (kd_out hh)) (by decide)) h k
theorem ks10_1 {h : Nat} (k : kdT h = 10) : kdT (h + 2) = 11 := sh_all (fun h => kdT h = 10 → kdT (h + 2) = 11) (by decide +kernel) (fun h hh q => absurd (q.symm.trans (kd_out hh)) (by decide)) h k
theorem ln10_1 {h : Nat} (k : kdT h = 10) : lnT (h + 2) = 242 := sh_all (fun h => kdT h = 10 → lnT (h + 2) = 242) (by decide +kernel) (fun h hh q => absurd (q.symm.trans (kd_out hh)) (by decide)) h k
theorem ks10_2 {h : Nat} (k : kdT h = 10) : kdT (h + 3) = 11 := sh_all (fun h => kdT h = 10 → kdT (h + 3) = 11) (by decide +kernel) (fun h hh q => absurd (q.symm.trans (kd_out hh)) (by decide)) h k
theorem ln10_2 {h : Nat} (k : kdT h = 10) : lnT (h + 3) = 242 := sh_all (fun h => kdT h = 10 → lnT (h + 3) = 242) (by decide +kernel) (fun h hh q => absurd (q.symm.trans (kd_out hh)) (by decide)) h k
theorem ks10_5 {h : Nat} (k : kdT h = 10) : kdT (h + 4) = 11 := sh_all (fun h => kdT h = 10 → kdT (h + 4) = 11) (by decide +kernel) (fun h hh q => absurd (q.symm.trans (kd_out hh)) (by decide)) h k
theorem ln10_5 {h : Nat} (k : kdT h = 10) : lnT (h + 4) = 6 := sh_all (fun h => kdT h = 10 → lnT (h + 4) = 6) (by decide +kernel) (fun h hh q => absurd (q.symm.trans (kd_out hh)) (by decide)) h k
theorem ks10_12 {h : Nat} (k : kdT h = 10) : kdT (h + 5) = 11 := sh_all (fun h => kdT h = 10 → kdT (h + 5) = 11) (by decide +kernel) (fun h hh q => absurd (q.symm.trans (kd_out hh)) (by decide)) h k
theorem ln10_12 {h : Nat} (k : kdT h = 10) : lnT (h + 5) = 50 := sh_all (fun h => kdT h = 10 → lnT (h + 5) = 50) (by decide +kernel) (fun h hh q => absurd (q.symm.trans (kd_out hh)) (by decide)) h k
theorem ks10_13 {h : Nat} (k : kdT h = 10) : kdT (h + 6) = 11 := sh_all (fun h => kdT h = 10 → kdT (h + 6) = 11) (by decide +kernel) (fun h hh q => absurd (q.symm.trans (kd_out hh)) (by decide)) h k
theorem ln10_13 {h : Nat} (k : kdT h = 10) : lnT (h + 6) = 50 := sh_all (fun h => kdT h = 10 → lnT (h + 6) = 50) (by decide +kernel) (fun h hh q => absurd (q.symm.trans (kd_out hh)) (by decide)) h k
theorem ks10_14 {h : Nat} (k : kdT h = 10) : kdT (h + 7) = 11 := sh_all (fun h => kdT h = 10 → kdT (h + 7) = 11) (by decide +kernel) (fun h hh q => absurd (q.symm.trans (kd_out hh)) (by decide)) h k
theorem ln10_14 {h : Nat} (k : kdT h = 10) : lnT (h + 7) = 3 := sh_all (fun h => kdT h = 10 → lnT (h + 7) = 3) (by decide +kernel) (fun h hh q => absurd (q.symm.trans (kd_out hh)) (by decide)) h k
theorem ks10_15 {h : Nat} (k : kdT h = 10) : kdT (h + 8) = 11 := sh_all (fun h => kdT h = 10 → kdT (h + 8) = 11) (by decide +kernel) (fun h hh q => absurd (q.symm.trans (kd_out hh)) (by decide)) h k
theorem ln10_15 {h : Nat} (k : kdT h = 10) : lnT (h + 8) = 6 := sh_all (fun h => kdT h = 10 → lnT (h + 8) = 6) (by decide +kernel) (fun h hh q => absurd (q.symm.trans (kd_out hh)) (by decide)) h k
theorem ks10_16 {h : Nat} (k : kdT h = 10) : kdT (h + 9) = 11 := sh_all (fun h => kdT h = 10 → kdT (h + 9) = 11) (by decide +kernel) (fun h hh q => absurd (q.symm.trans (kd_out hh)) (by decide)) h k
theorem ln10_16 {h : Nat} (k : kdT h = 10) : lnT (h + 9) = 4 := sh_all (fun h => kdT h = 10 → lnT (h + 9) = 4) (by decide +kernel) (fun h hh q => absurd (q.symm.trans (kd_out hh)) (by decide)) h k
theorem ks10_17 {h : Nat} (k : kdT h = 10) : kdT (h + 10) = 11 := sh_all (fun h => kdT h = 10 → kdT (h + 10) = 11) (by decide +kernel) (fun h hh q => absurd (q.symm.trans (kd_out hh)) (by decide)) h k
theorem ln10_17 {h : Nat} (k : kdT h = 10) : lnT (h + 10) = 4 := sh_all (fun h => kdT h = 10 → lnT (h + 10) = 4) (by decide +kernel) (fun h hh q => absurd (q.symm.trans (kd_out hh)) (by decide)) h k
theorem ks10_18 {h : Nat} (k : kdT h = 10) : kdT (h + 11) = 11 := sh_all (fun h => kdT h = 10 → kdT (h + 11) = 11) (by decide +kernel) (fun h hh q => absurd (q.symm.trans (kd_out hh)) (by decide)) h k
theorem ln10_18 {h : Nat} (k : kdT h = 10) : lnT (h + 11) = 160 := sh_all (fun h => kdT h = 10 → lnT (h + 11) = 160) (by decide +kernel) (fun h hh q => absurd (q.symm.trans (kd_out hh)) (by decide)) h k
theorem ks10_19 {h : Nat} (k : kdT h = 10) : kdT (h + 12) = 11 := sh_all (fun h => kdT h = 10 → kdT (h + 12) = 11) (by decide +kernel) (fun h hh q => absurd (q.symm.trans (kd_out hh)) (by decide)) h k
theorem ln10_19 {h : Nat} (k : kdT h = 10) : lnT (h + 12) = 40 := sh_all (fun h => kdT h = 10 → lnT (h + 12) = 40) (by decide +kernel) (fun h hh q => absurd (q.symm.trans (kd_out hh)) (by decide)) h k
theorem ks10_20 {h : Nat} (k : kdT h = 10) : kdT (h + 13) = 11 := sh_all (fun h => kdT h = 10 → kdT (h + 13) = 11) (by decide +kernel) (fun h hh q => absurd (q.symm.trans (kd_out hh)) (by decide)) h k
theorem ln10_20 {h : Nat} (k : kdT h = 10) : lnT (h + 13) = 40 := sh_all (fun h => kdT h = 10 → lnT (h + 13) = 40) (by decide +kernel) (fun h hh q => absurd (q.symm.trans (kd_out hh)) (by decide)) h k
theorem ke12 {h : Nat} {i : Nat} (k : kdT h = 12) (hi : i < lnT h) : kdT (h + 4 + i) = 4 := sh_all (fun h => kdT h = 12 → ∀ i, i < lnT h → kdT (h + 4 + i) = 4) (by decide +kernel) (fun h hh q => absurd (q.symm.trans (kd_out hh)) (by decide)) h k i hi
theorem ke13 {h : Nat} {i : Nat} (k : kdT h = 13) (hi : i < lnT h) : kdT (h + 9 + i) = 5 := sh_all (fun h => kdT h = 13 → ∀ i, i < lnT h → kdT (h + 9 + i) = 5) (by decide +kernel) (fun h hh q => absurd (q.symm.trans (kd_out hh)) (by decide)) h k i hi
theorem ke14 {h : Nat} {i : Nat} (k : kdT h = 14) (hi : i < lnT h) : kdT (h + 2 + 3 * i) = 6 := sh_all (fun h => kdT h = 14 → ∀ i, i < lnT h → kdT (h + 2 + 3 * i) = 6) (by decide +kernel) (fun h hh q => absurd (q.symm.trans (kd_out hh)) (by decide)) h k i hi
