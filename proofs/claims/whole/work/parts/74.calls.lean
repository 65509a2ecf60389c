/-- ORDER: each is found once -/
def cfN (r : Nat → Int32) : Nat → Nat
  | 0 => 0
  | k + 1 => cfN r k + (if r (30 + 6 * k + 5) = 0 then 0 else 1)
theorem cf_le {r : Nat → Int32} : ∀ k, cfN r k ≤ k
  | 0 => Nat.le_refl _
  | k + 1 => by
    have := cf_le (r := r) k
    show cfN r k + _ ≤ k + 1
    split <;> omega
theorem cf_ext {r r' : Nat → Int32} : ∀ k, (∀ j, j < k → r' (30 + 6 * j + 5) = r (30 + 6 * j + 5)) → cfN r' k = cfN r k
  | 0, _ => rfl
  | k + 1, h => by
    show cfN r' k + _ = cfN r k + _
    rw [cf_ext k (fun j hj => h j (by omega)), h k (by omega)]
theorem cf_set {r : Nat → Int32} {j : Nat} (h0 : r (30 + 6 * j + 5) = 0) : ∀ k, j < k → cfN (upd r (30 + 6 * j + 5) 1) k = cfN r k + 1 ∧ cfN r k < k
  | 0, h => by omega
  | k + 1, h => by
    show cfN (upd r (30 + 6 * j + 5) 1) k + _ = cfN r k + _ + 1 ∧ cfN r k + _ < k + 1
    by_cases q : j = k
    · subst q
      rw [cf_ext (r := r) j (fun i hi => upd_off (by omega)), upd_hit, h0]
      have := cf_le (r := r) j
      exact ⟨rfl, by simp; omega⟩
    · obtain ⟨a, b⟩ := cf_set h0 k (by omega)
      rw [a, upd_off (by omega)]
      refine ⟨by omega, ?_⟩
      split <;> omega
theorem seek_cf {r : Nat → Int32} {ns nk hr s : Nat} (hR : RO r ns nk hr) (hs : s < ns) : ((seekP nk r s).2 < 0 ∧ cfN (seekP nk r s).1 nk = cfN r nk) ∨ (¬ (seekP nk r s).2 < 0 ∧ cfN (seekP nk r s).1 nk = cfN r nk + 1 ∧ cfN r nk < nk) := by
  have n6 := hR.1.2
  have n7 := hR.2.1.2
  unfold seekP
  rcases out_is r s nk with q | ⟨j, q1, q2, q3⟩
  · rw [q, if_pos (by decide)]; exact Or.inl ⟨m1neg, rfl⟩
  · rw [q2, if_neg (nI_pos (by omega)), tn, nI_clamp (by omega)]
    obtain ⟨c, hc, ec⟩ := hR.fld (w := 2) q1 (by decide)
    have hc : c ≤ 9 := hc
    rw [ec, tn, nI_clamp (by omega)]
    unfold seekA
    have d : ∀ i, (digZ r s c) (30 + 6 * i + 5) = r (30 + 6 * i + 5) := fun i => upd_off (by omega)
    split
    · split
      · refine Or.inr ⟨nI_pos (by omega), ?_⟩
        have e := cf_set (r := digZ r s c) (j := j) (by rw [d]; exact q3.1) nk q1
        rw [cf_ext (r := r) (r' := digZ r s c) nk (fun i _ => d i)] at e
        exact e
      · exact Or.inl ⟨m1neg, cf_ext nk (fun i _ => d i)⟩
    · exact Or.inl ⟨m1neg, cf_ext nk (fun i _ => upd_off (by omega))⟩
/-- the finds of an hour, one behind the other -/
theorem fl_step {r : Nat → Int32} {l : List Int32} {ns nk hr : Nat} (hR : RO r ns nk hr) (hl : l.length ≤ cfN r nk) : ∀ s, s ≤ ns → (flL nk r l s).length ≤ cfN (ph2 nk r s) nk ∧ (s < ns → ¬ fl2 nk r s < 0 → flL nk r l (s + 1) = flL nk r l s ++ [fl2 nk r s])
  | 0, _ => by
    refine ⟨hl, fun hs hx => ?_⟩
    have n7 := hR.2.1.2
    rcases seek_cf hR hs with q | q
    · exact absurd q.1 hx
    · show pushF (flL nk r l 0) (fl2 nk r 0) = _
      unfold pushF
      have q1 := q.2.2
      rw [if_neg hx, if_pos (show (flL nk r l 0).length < 7 from by show l.length < 7; omega)]
  | s + 1, hs => by
    have n7 := hR.2.1.2
    obtain ⟨i1, i2⟩ := fl_step hR hl s (by omega)
    have hRs := ph2_RO hR s (by omega)
    have key : (flL nk r l (s + 1)).length ≤ cfN (ph2 nk r (s + 1)) nk := by
      rcases seek_cf hRs (s := s) (by omega) with q | q
      · have e : flL nk r l (s + 1) = flL nk r l s := by
          show pushF (flL nk r l s) (fl2 nk r s) = _
          unfold pushF
          exact if_pos q.1
        rw [e]
        exact Nat.le_trans i1 (Nat.le_of_eq q.2.symm)
      · rw [i2 (by omega) q.1, List.length_append]
        have q1 := q.2.1
        show (flL nk r l s).length + 1 ≤ cfN (seekP nk (ph2 nk r s) s).1 nk
        omega
    refine ⟨key, fun hs2 hx => ?_⟩
    rcases seek_cf (ph2_RO hR (s + 1) (by omega)) hs2 with q | q
    · exact absurd q.1 hx
    · show pushF (flL nk r l (s + 1)) (fl2 nk r (s + 1)) = _
      unfold pushF
      have q1 := q.2.2
      rw [if_neg hx, if_pos (by omega)]
theorem fl_skip {r : Nat → Int32} {l : List Int32} {nk s : Nat} (h : fl2 nk r s < 0) : flL nk r l (s + 1) = flL nk r l s := by
  show pushF (flL nk r l s) (fl2 nk r s) = _
  unfold pushF
  exact if_pos h
theorem hour_cf {r : Nat → Int32} {l : List Int32} {ns nk hr : Nat} (hR : RO r ns nk hr) (hl : l.length ≤ cfN r nk) : (hourL ns nk r l).length ≤ cfN (hourZ ns nk r) nk := by
  have hR1 := ph1_RO hR 10 (by omega)
  have e1 : cfN (ph1 r 10) nk = cfN r nk := cf_ext nk (fun j _ => ph1_off (by omega) 10 (by omega))
  have a := (fl_step hR1 (by rw [e1]; exact hl) ns (by omega)).1
  have e3 : ∀ j i, ph3 (ph2 nk (ph1 r 10) ns) j (30 + 6 * i + 5) = ph2 nk (ph1 r 10) ns (30 + 6 * i + 5) := by
    intro j i
    induction j with
    | zero => rfl
    | succ j ih =>
      show frz _ j _ = _
      unfold frz
      split
      · rw [upd_off (by omega)]; exact ih
      · exact ih
  have e2 : cfN (hourZ ns nk r) nk = cfN (ph2 nk (ph1 r 10) ns) nk := cf_ext nk (fun j _ => by
    unfold hourZ tick
    rw [upd_off (by omega)]
    exact e3 nk j)
  rw [e2]
  exact a
theorem pass_cf {r : Nat → Int32} {ns nk hr : Nat} (hR : RO r ns nk hr) : ∀ n, hr + n < 20000 → (passL ns nk r [] n).length ≤ cfN (passZ ns nk r n) nk
  | 0, _ => by simp [passL]
  | n + 1, hn => hour_cf (pass_RO hR n (by omega)) (pass_cf hR n (by omega))
def pre (l l' : List Int32) : Prop := l.length ≤ l'.length ∧ ∀ j, j < l.length → l'.getD j 0 = l.getD j 0
theorem pre.rf {l : List Int32} : pre l l := ⟨Nat.le_refl _, fun _ _ => rfl⟩
theorem pre.tr {a b c : List Int32} (h1 : pre a b) (h2 : pre b c) : pre a c := ⟨Nat.le_trans h1.1 h2.1, fun j hj => (h2.2 j (Nat.lt_of_lt_of_le hj h1.1)).trans (h1.2 j hj)⟩
theorem app_lt {l : List Int32} {x : Int32} {j : Nat} (h : j < l.length) : (l ++ [x]).getD j 0 = l.getD j 0 := by
  rw [List.getD_eq_getElem?_getD, List.getD_eq_getElem?_getD, List.getElem?_append_left h]
theorem app_at {l : List Int32} {x : Int32} : (l ++ [x]).getD l.length 0 = x := by simp [List.getD_eq_getElem?_getD]
theorem pre.push {l : List Int32} {x : Int32} : pre l (pushF l x) := by
  unfold pushF
  split
  · exact pre.rf
  · split
    · exact ⟨by simp, fun j hj => app_lt hj⟩
    · exact pre.rf
theorem pre.fl {r : Nat → Int32} {l : List Int32} {nk : Nat} : ∀ s, pre l (flL nk r l s)
  | 0 => pre.rf
  | s + 1 => (pre.fl s).tr pre.push
theorem pre.pass {r : Nat → Int32} {ns nk n : Nat} : ∀ m, pre (passL ns nk r [] n) (passL ns nk r [] (n + m))
  | 0 => pre.rf
  | m + 1 => (pre.pass m).tr (pre.fl ns)
theorem pre.pass' {r : Nat → Int32} {ns nk n m : Nat} (h : n ≤ m) : pre (passL ns nk r [] n) (passL ns nk r [] m) := by
  have := pre.pass (r := r) (ns := ns) (nk := nk) (n := n) (m - n)
  rw [show n + (m - n) = m from by omega] at this
  exact this
/-- how far two rows go together -/
def PM (l : List Int32) (z : Nat) (g : Nat → Int32) (p : Nat) : Prop := p ≤ l.length ∧ p ≤ z ∧ (∀ j, j < p → l.getD j 0 = g j) ∧ (p = l.length ∨ p = z ∨ ¬ l.getD p 0 = g p)
theorem PM.uniq {l : List Int32} {z : Nat} {g : Nat → Int32} {p q : Nat} (h1 : PM l z g p) (h2 : PM l z g q) : p = q := by
  obtain ⟨a1, a2, a3, a4⟩ := h1
  obtain ⟨b1, b2, b3, b4⟩ := h2
  rcases Nat.lt_trichotomy p q with h | h | h
  · rcases a4 with c | c | c
    · omega
    · omega
    · exact absurd (b3 p h) c
  · exact h
  · rcases b4 with c | c | c
    · omega
    · omega
    · exact absurd (a3 q h) c
/-- what the reference knows behind a part of the finds -/
def MS (l : List Int32) (z : Nat) (g : Nat → Int32) (v2 v3 : Int32) : Prop := (v3 = 1 ∧ v2 = nI l.length ∧ l.length ≤ z ∧ ∀ j, j < l.length → l.getD j 0 = g j) ∨ (v3 = 0 ∧ ∃ p, v2 = nI p ∧ p < l.length ∧ p ≤ z ∧ (∀ j, j < p → l.getD j 0 = g j) ∧ (p = z ∨ ¬ l.getD p 0 = g p))
theorem MS.pm {l l' : List Int32} {z : Nat} {g : Nat → Int32} {v2 : Int32} (h : MS l z g v2 0) (hp : pre l l') : ∃ p, v2 = nI p ∧ PM l' z g p := by
  rcases h with ⟨c, -⟩ | ⟨-, p, e, h1, h2, h3, h4⟩
  · exact absurd c (by decide)
  · refine ⟨p, e, by have := hp.1; omega, h2, fun j hj => by rw [hp.2 j (by omega)]; exact h3 j hj, ?_⟩
    rcases h4 with q | q
    · exact Or.inr (Or.inl q)
    · exact Or.inr (Or.inr (by rw [hp.2 p h1]; exact q))
