/-! ===== TEXTS ===== -/
def gL (c : List Int32) : Nat → Int32 := fun j => c.getD j 0
def WFc (c : List Int32) (d : Nat) : Prop := (∀ j, j < c.length → okT (gL c j) (depZ (gL c) j)) ∧ depZ (gL c) c.length = d
theorem dep_ext {g g' : Nat → Int32} : ∀ n, (∀ j, j < n → g' j = g j) → depZ g' n = depZ g n
  | 0, _ => rfl
  | n + 1, h => by
    unfold depZ
    rw [h n (by omega), dep_ext n (fun j hj => h j (by omega))]
def nxD (x : Int32) (d : Nat) : Nat := if x < 20000 then d + 1 else if x = 20033 then d else d - 1
theorem WFc.app {c : List Int32} {d : Nat} {x : Int32} (h : WFc c d) (hx : okT x d) : WFc (c ++ [x]) (nxD x d) := by
  have e : ∀ j, j < c.length → gL (c ++ [x]) j = gL c j := fun j hj => app_lt hj
  have ea : gL (c ++ [x]) c.length = x := app_at
  have ed : ∀ j, j ≤ c.length → depZ (gL (c ++ [x])) j = depZ (gL c) j := fun j hj => dep_ext j (fun i hi => e i (by omega))
  refine ⟨fun j hj => ?_, ?_⟩
  · simp only [List.length_append, List.length_cons, List.length_nil] at hj
    by_cases q : j = c.length
    · subst q; rw [ea, ed _ (Nat.le_refl _), h.2]; exact hx
    · rw [e j (by omega), ed j (by omega)]; exact h.1 j (by omega)
  · rw [show (c ++ [x]).length = c.length + 1 from by simp]
    show (if gL (c ++ [x]) c.length < 20000 then depZ (gL (c ++ [x])) c.length + 1 else if gL (c ++ [x]) c.length = 20033 then depZ (gL (c ++ [x])) c.length else depZ (gL (c ++ [x])) c.length - 1) = _
    rw [ea, ed _ (Nat.le_refl _), h.2]
    rfl
theorem WFc.ofNil : WFc [] 0 := ⟨fun j hj => by simp at hj, rfl⟩
theorem WFc.num {c : List Int32} {d v : Nat} (h : WFc c d) (hv : v < 10003) : WFc (c ++ [nI v]) (d + 1) := by
  have l2 : nI v < 20000 := nI_lt (b := 20000) (by omega) (by decide)
  have := h.app (x := nI v) (Or.inl ⟨nI_pos' (by omega), nI_lt (b := 10003) hv (by decide)⟩)
  unfold nxD at this
  rw [if_pos l2] at this
  exact this
theorem sg_all : ∀ s ∈ sgnL, enc (20000 + s) = -s ∧ (20000 + s) - 20000 ∈ sgnL ∧ ¬ (20000 + s) < 20000 ∧ ¬ (20000 + s) = 20033 := by decide
theorem WFc.sgn {c : List Int32} {d : Nat} {s : Int32} (h : WFc c (d + 2)) (hs : s ∈ sgnL) : WFc (c ++ [20000 + s]) (d + 1) := by
  obtain ⟨-, a, b, e⟩ := sg_all s hs
  have := h.app (x := 20000 + s) (Or.inr (Or.inr ⟨a, by omega⟩))
  unfold nxD at this
  rw [if_neg b, if_neg e] at this
  exact this
theorem WFc.neg {c : List Int32} {d : Nat} (h : WFc c (d + 1)) : WFc (c ++ [20033]) (d + 1) := by
  have := h.app (x := 20033) (Or.inr (Or.inl ⟨rfl, by omega⟩))
  exact this
def bAt (en : Nat) (B : Nat → Int32) (p : Nat) : Int32 := if p < en then B p else -1
def CS (u en : Nat) (B : Nat → Int32) (p : Nat) (c : List Int32) (M : Mem) : Prop := (M 98 2 = nI u ∧ M 98 3 = nI p) ∧ (M 99 1 = nI en ∧ ∀ j, j < en → M 100 j = B j) ∧ M 101 1 = nI c.length ∧ ∀ j, j < c.length → M 102 j = enc (c.getD j 0)
def TCx : Nat → Prop := fun b => b = 98 ∨ b = 101 ∨ b = 102
def MX (u en : Nat) (B : Nat → Int32) (p : Nat) (c : List Int32) (g : Int32) (o : Nat) (M : Mem) : Prop := (M 120 6 = nI u ∧ M 120 8 = nI en ∧ ∀ j, j < en → M 121 (72 + j) = B j) ∧ (M 120 7 = nI p ∧ M 120 9 = nI o ∧ M 120 11 = g) ∧ M 120 10 = nI c.length ∧ ∀ j, j < c.length → M 125 j = c.getD j 0
def OX (M M' : Mem) : Prop := (∀ b, b ≠ 120 → b ≠ 125 → M' b = M b) ∧ ∀ j, (j < 6 ∨ 11 < j) → M' 120 j = M 120 j
theorem OX.rf {M : Mem} : OX M M := ⟨fun _ _ _ => rfl, fun _ _ => rfl⟩
theorem OX.tr {M M1 M2 : Mem} (h1 : OX M M1) (h2 : OX M1 M2) : OX M M2 := ⟨fun b x y => (h2.1 b x y).trans (h1.1 b x y), fun j x => (h2.2 j x).trans (h1.2 j x)⟩
theorem OX.mu {M : Mem} {k : Nat} {v : Int32} (h : 6 ≤ k ∧ k ≤ 11) : OX M (mu M 120 k v) := ⟨fun b x _ => mu_ne x, fun j x => mu_off (by omega)⟩
section
variable {u en : Nat} {B : Nat → Int32}
/-- the class's steps -/
theorem c_next {p : Nat} {c : List Int32} {M : Mem} {Q : Int32 → Mem → Prop} (h : CS u en B p c M) (he : en ≤ 50) (hp : p ≤ en) (hQ : Q (bAt en B p) M) : wp_X2_next 98 M Q := by
  unfold wp_X2_next
  refine ⟨by decide, ?_⟩
  rw [h.1.2]
  refine sp_holds (h := 99) (by decide) h.2.1.1 (by omega) ?_
  unfold bAt at hQ
  by_cases q : p < en
  · rw [if_pos q] at hQ
    refine b1t ((zin_cnt (by omega)).mpr ⟨p, q, rfl⟩) ?_
    rw [h.1.2]
    refine sp_get (h := 99) (by decide) h.2.1.1 q (by rw [show lnT (99 + 1) = 50 from by decide]; exact he) (by rw [show lnT (99 + 1) = 50 from by decide]; decide) ?_
    rw [show M (99 + 1) p = B p from h.2.1.2 p q]
    exact hQ
  · rw [if_neg q] at hQ
    refine b1f (fun z => ?_) hQ
    obtain ⟨k, hk, e⟩ := (zin_cnt (by omega)).mp z
    rw [nI_eq (by omega) (by omega)] at e
    omega
theorem CS.go {p : Nat} {c : List Int32} {M : Mem} (h : CS u en B p c M) : CS u en B (p + 1) c (mu M 98 3 ((M 98 3) + 1)) := by
  refine ⟨⟨by rw [mu_off (by decide)]; exact h.1.1, by rw [mu_hit, h.1.2, nI_1]⟩, ⟨by rw [mu_ne (by decide)]; exact h.2.1.1, fun j hj => by rw [mu_ne (by decide)]; exact h.2.1.2 j hj⟩, by rw [mu_ne (by decide)]; exact h.2.2.1, fun j hj => by rw [mu_ne (by decide)]; exact h.2.2.2 j hj⟩
theorem c_go {M : Mem} {v : Int32} : only TCx M (mu M 98 3 v) := only.mu (Or.inl rfl)
theorem c_app {p : Nat} {c : List Int32} {x : Int32} {M : Mem} {Q : Int32 → Mem → Prop} (h : CS u en B p c M) (hl : c.length < 50) (hQ : ∀ M', CS u en B p (c ++ [x]) M' → only TCx M M' → Q 1 M') : wp_X3_append 101 (enc x) M Q := by
  refine sp_append (h := 101) (by decide) h.2.2.1 (by rw [show lnT (101 + 1) = 50 from by decide]; exact hl) (by rw [show lnT (101 + 1) = 50 from by decide]; decide) ?_
  refine hQ _ ⟨?_, ⟨?_, fun j hj => ?_⟩, ?_, fun j hj => ?_⟩ ((only.mu (Or.inr (Or.inr rfl))).tr (only.mu (Or.inr (Or.inl rfl))))
  · rw [mu_ne (by decide), mu_ne (by decide)]; exact h.1
  · rw [mu_ne (by decide), mu_ne (by decide)]; exact h.2.1.1
  · rw [mu_ne (by decide), mu_ne (by decide)]; exact h.2.1.2 j hj
  · rw [mu_hit]; simp
  · simp only [List.length_append, List.length_cons, List.length_nil] at hj
    rw [mu_ne (by decide)]
    by_cases q : j = c.length
    · subst q; rw [app_at]; exact mu_hit
    · rw [app_lt (by omega), ← h.2.2.2 j (by omega)]; exact mu_off q
/-- the reference's steps -/
theorem m_byte {p o : Nat} {c : List Int32} {g : Int32} {M : Mem} {Q : Int32 → Mem → Prop} (h : MX u en B p c g o M) (he : en ≤ 50) (hp : p ≤ en) (hQ : Q (bAt en B p) M) : wp_X10_byteAt 120 (M 120 7) M Q := by
  unfold wp_X10_byteAt
  refine ⟨by decide, ?_⟩
  rw [h.2.1.1, h.1.2.1]
  unfold bAt at hQ
  by_cases q : p < en
  · rw [if_pos q] at hQ
    refine br_f (nI_ge q (by omega)) ?_
    rw [show (72 : Int32) = nI 72 from rfl, nI_add]
    refine ⟨vp_in_nI (by omega) (by decide), ?_⟩
    rw [nI_clamp (by omega), show M (120 + 1) (72 + p) = B p from h.1.2.2 p q]
    exact hQ
  · rw [if_neg q] at hQ
    exact br_t (nI_le (by omega) (by omega)) hQ
theorem MX.go {p o : Nat} {c : List Int32} {g : Int32} {M : Mem} (h : MX u en B p c g o M) : MX u en B (p + 1) c g o (mu M 120 7 ((M 120 7) + 1)) := by
  refine ⟨⟨by rw [mu_off (by decide)]; exact h.1.1, by rw [mu_off (by decide)]; exact h.1.2.1, fun j hj => by rw [mu_ne (by decide)]; exact h.1.2.2 j hj⟩, ⟨by rw [mu_hit, h.2.1.1, nI_1], by rw [mu_off (by decide)]; exact h.2.1.2.1, by rw [mu_off (by decide)]; exact h.2.1.2.2⟩, by rw [mu_off (by decide)]; exact h.2.2.1, fun j hj => by rw [mu_ne (by decide)]; exact h.2.2.2 j hj⟩
theorem MX.opn {p o o' : Nat} {c : List Int32} {g : Int32} {M : Mem} (h : MX u en B p c g o M) : MX u en B p c g o' (mu M 120 9 (nI o')) := by
  refine ⟨⟨by rw [mu_off (by decide)]; exact h.1.1, by rw [mu_off (by decide)]; exact h.1.2.1, fun j hj => by rw [mu_ne (by decide)]; exact h.1.2.2 j hj⟩, ⟨by rw [mu_off (by decide)]; exact h.2.1.1, by rw [mu_hit], by rw [mu_off (by decide)]; exact h.2.1.2.2⟩, by rw [mu_off (by decide)]; exact h.2.2.1, fun j hj => by rw [mu_ne (by decide)]; exact h.2.2.2 j hj⟩
theorem MX.good {p o : Nat} {c : List Int32} {g g' : Int32} {M : Mem} (h : MX u en B p c g o M) : MX u en B p c g' o (mu M 120 11 g') := by
  refine ⟨⟨by rw [mu_off (by decide)]; exact h.1.1, by rw [mu_off (by decide)]; exact h.1.2.1, fun j hj => by rw [mu_ne (by decide)]; exact h.1.2.2 j hj⟩, ⟨by rw [mu_off (by decide)]; exact h.2.1.1, by rw [mu_off (by decide)]; exact h.2.1.2.1, by rw [mu_hit]⟩, by rw [mu_off (by decide)]; exact h.2.2.1, fun j hj => by rw [mu_ne (by decide)]; exact h.2.2.2 j hj⟩
theorem m_adds {p o : Nat} {c : List Int32} {x : Int32} {M : Mem} {Q : Mem → Prop} (h : MX u en B p c 1 o M) (hl : c.length < 50) (hQ : ∀ M', MX u en B p (c ++ [x]) 1 o M' → OX M M' → Q M') : wp_X10_adds 120 x M Q := by
  unfold wp_X10_adds
  refine ⟨by decide, ?_⟩
  rw [h.2.1.2.2, h.2.2.1]
  refine ⟨fun z => absurd z (by decide), fun _ => ⟨vp_in_nI hl (by decide), ?_⟩⟩
  rw [nI_clamp (by omega)]
  intro M1 e1 M2 e2
  have e3 : M1 120 10 = nI c.length := by rw [e1, mu_ne (by decide)]; exact h.2.2.1
  rw [e3, nI_1] at e2
  have K : ∀ j, j ≠ 10 → M2 120 j = M 120 j := fun j hj => by rw [e2, mu_off hj, e1, mu_ne (by decide)]
  refine hQ M2 ⟨⟨by rw [K _ (by decide)]; exact h.1.1, by rw [K _ (by decide)]; exact h.1.2.1, fun j hj => ?_⟩, ⟨by rw [K _ (by decide)]; exact h.2.1.1, by rw [K _ (by decide)]; exact h.2.1.2.1, by rw [K _ (by decide)]; exact h.2.1.2.2⟩, by rw [e2, mu_hit]; simp, fun j hj => ?_⟩ ⟨fun b x y => by rw [e2, mu_ne x, e1, mu_ne y], fun j x => K j (by omega)⟩
  · rw [e2, mu_ne (by decide), e1, mu_ne (by decide)]; exact h.1.2.2 j hj
  · simp only [List.length_append, List.length_cons, List.length_nil] at hj
    rw [e2, mu_ne (by decide), e1]
    by_cases q : j = c.length
    · subst q; rw [app_at]; exact mu_hit
    · rw [app_lt (by omega), ← h.2.2.2 j (by omega)]; exact mu_off q
theorem m_adds0 {p o : Nat} {c : List Int32} {x : Int32} {M : Mem} {Q : Mem → Prop} (h : MX u en B p c 0 o M) (hQ : Q M) : wp_X10_adds 120 x M Q := by
  unfold wp_X10_adds
  refine ⟨by decide, ?_⟩
  rw [h.2.1.2.2]
  exact ⟨fun _ => hQ, fun z => absurd rfl z⟩
end
/-- levels of signs -/
def lvZ (s : Int32) : Int32 := if s = 37 then 4 else if s = 38 then 1 else if s = 42 then 4 else if s = 43 then 3 else if s = 45 then 3 else if s = 47 then 4 else if s = 60 then 2 else if s = 61 then 2 else if s = 62 then 2 else if s = 124 then 0 else -1
theorem sp_level {s : Int32} {M : Mem} {Q : Int32 → Mem → Prop} (hQ : Q (lvZ s) M) : wp_X2_levelOf s M Q := by
  unfold wp_X2_levelOf
  refine ⟨fun z => ?_, fun z => ?_, fun z => ?_, fun z => ?_, fun z => ?_, fun z => ?_, fun z => ?_, fun z => ?_, fun z => ?_, fun z => ?_, fun a1 a2 a3 a4 a5 a6 a7 a8 a9 a10 => ?_⟩
  all_goals first | (subst z; exact hQ) | (unfold lvZ at hQ; rw [if_neg a1, if_neg a2, if_neg a3, if_neg a4, if_neg a5, if_neg a6, if_neg a7, if_neg a8, if_neg a9, if_neg a10] at hQ; exact hQ)
theorem lv_cases (s : Int32) : (s = 37 ∨ s = 38 ∨ s = 42 ∨ s = 43 ∨ s = 45 ∨ s = 47 ∨ s = 60 ∨ s = 61 ∨ s = 62 ∨ s = 124) ∨ (lvZ s = -1 ∧ ¬ s = 37 ∧ ¬ s = 38 ∧ ¬ s = 42 ∧ ¬ s = 43 ∧ ¬ s = 45 ∧ ¬ s = 47 ∧ ¬ s = 60 ∧ ¬ s = 61 ∧ ¬ s = 62 ∧ ¬ s = 124) := by
  by_cases h : (s = 37 ∨ s = 38 ∨ s = 42 ∨ s = 43 ∨ s = 45 ∨ s = 47 ∨ s = 60 ∨ s = 61 ∨ s = 62 ∨ s = 124)
  · exact Or.inl h
  · simp only [not_or] at h
    obtain ⟨a1, a2, a3, a4, a5, a6, a7, a8, a9, a10⟩ := h
    exact Or.inr ⟨by unfold lvZ; rw [if_neg a1, if_neg a2, if_neg a3, if_neg a4, if_neg a5, if_neg a6, if_neg a7, if_neg a8, if_neg a9, if_neg a10], a1, a2, a3, a4, a5, a6, a7, a8, a9, a10⟩
theorem lv_sg {s : Int32} {L : Nat} (hL : L ≤ 4) (h : lvZ s = nI L) : s ∈ sgnL := by
  rcases lv_cases s with q | q
  · unfold sgnL; simp; exact q
  · rw [q.1] at h
    exact absurd h ((show ∀ L, L ≤ 4 → ¬ (-1 : Int32) = nI L by decide) L hL)
theorem lv4 (s : Int32) : lvZ s = nI 4 ↔ (s = 42 ∨ s = 47 ∨ s = 37) := by
  rcases lv_cases s with q | q
  · rcases q with rfl | rfl | rfl | rfl | rfl | rfl | rfl | rfl | rfl | rfl <;> decide
  · simp [q]; decide
theorem lv3 (s : Int32) : lvZ s = nI 3 ↔ (s = 43 ∨ s = 45) := by
  rcases lv_cases s with q | q
  · rcases q with rfl | rfl | rfl | rfl | rfl | rfl | rfl | rfl | rfl | rfl <;> decide
  · simp [q]; decide
theorem lv2 (s : Int32) : lvZ s = nI 2 ↔ (s = 60 ∨ s = 61 ∨ s = 62) := by
  rcases lv_cases s with q | q
  · rcases q with rfl | rfl | rfl | rfl | rfl | rfl | rfl | rfl | rfl | rfl <;> decide
  · simp [q]; decide
theorem lv1 (s : Int32) : lvZ s = nI 1 ↔ s = 38 := by
  rcases lv_cases s with q | q
  · rcases q with rfl | rfl | rfl | rfl | rfl | rfl | rfl | rfl | rfl | rfl <;> decide
  · simp [q]; decide
theorem lv0 (s : Int32) : lvZ s = nI 0 ↔ s = 124 := by
  rcases lv_cases s with q | q
  · rcases q with rfl | rfl | rfl | rfl | rfl | rfl | rfl | rfl | rfl | rfl <;> decide
  · simp [q]; decide
