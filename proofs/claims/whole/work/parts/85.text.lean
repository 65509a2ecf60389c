/-- numbers -/
theorem e_isDigit (a : Int32) (M : Mem) (Q : Int32 → Mem → Prop) : wp_X2_isDigit a M Q = Q (bi (zin a 48 57)) M := by
  unfold wp_X2_isDigit
  by_cases h1 : a < 48
  · have : ¬ zin a 48 57 := fun h => nlt_le.mpr h1 h.1
    simp [h1, bi_f this]
  · by_cases h2 : (57 : Int32) < a
    · have : ¬ zin a 48 57 := fun h => nlt_le.mpr h2 h.2
      simp [h1, h2, bi_f this]
    · have : zin a 48 57 := ⟨nle_lt.mp h1, nle_lt.mp h2⟩
      simp [h1, h2, bi_t this]
theorem e_mDigit (a : Int32) (M : Mem) (Q : Int32 → Mem → Prop) : wp_X10_isDigit a M Q = Q (bi (zin a 48 57)) M := by
  unfold wp_X10_isDigit
  rw [e_in]
  simp [bib]
theorem dig_of {a : Int32} (h : zin a 48 57) : ∃ g, g ≤ 9 ∧ a = nI (48 + g) := by
  have h0 : zin a 0 (nI 57) := ⟨i_le.mpr (by have := i_le.mp h.1; rw [show (48 : Int32).toInt = 48 from by decide] at this; rw [show (0 : Int32).toInt = 0 from by decide]; omega), h.2⟩
  obtain ⟨k, hk, e⟩ := (zin_nI (n := 57) (by decide)).mp h0
  subst e
  have h1 : nI 48 ≤ nI k := h.1
  rw [nI_leI (by decide) (by omega)] at h1
  exact ⟨k - 48, by omega, by rw [show 48 + (k - 48) = k from by omega]⟩
theorem d48 : ∀ g, g ≤ 9 → nI (48 + g) - 48 = nI g := by decide
theorem mdig (v g : Nat) : (10 * nI v + nI (48 + g)) - 48 = nI (10 * v + g) := by
  rw [show (10 : Int32) = nI 10 from rfl, pk_mul, nI_add, show 10 * v + (48 + g) = (10 * v + g) + 48 from by omega, ← nI_add, show (48 : Int32) = nI 48 from rfl]
  exact Int32.add_sub_cancel _ _
theorem cdig (v g : Nat) (hg : g ≤ 9) : (nI v * 10) + (nI (48 + g) - 48) = nI (10 * v + g) := by
  rw [d48 g hg, show (10 : Int32) = nI 10 from rfl, pk_mul, nI_add, show v * 10 + g = 10 * v + g from by omega]
section
variable {u en : Nat} {B : Nat → Int32}
theorem num_run (he : en ≤ 50) : ∀ (k i p v : Nat), i + k = 4 → p ≤ en → v < 10 ^ i → ∃ p' v', (p ≤ p' ∧ p' ≤ en) ∧ v' < 10000 ∧ (1 ≤ k → zin (bAt en B p) 48 57 → p < p') ∧
    (∀ (c : List Int32) (M : Mem) (Q : Mem → Prop), CS u en B p c M → (∀ M', CS u en B p' c M' → only TCx M M' → b_X2_readNumber_48 98 Q (nI v') M') → l_X2_readNumber_4 98 Q (k + 1) (nI v) (nI i) M) ∧
    (∀ (c : List Int32) (o : Nat) (M : Mem) (Q : Mem → Prop), MX u en B p c 1 o M → (∀ M', MX u en B p' c 1 o M' → OX M M' → b_X10_number_56 120 Q (nI v') M') → l_X10_number_4 120 Q (k + 1) (nI v) (nI i) M) := by
  intro k
  induction k with
  | zero =>
    intro i p v hi hp hv
    have : i = 4 := by omega
    subst this
    refine ⟨p, v, ⟨Nat.le_refl _, hp⟩, hv, fun z => by omega, fun c M Q hc hq => ?_, fun c o M Q hm hq => ?_⟩
    · show B_X2_readNumber_4 98 Q _ _ _ _
      unfold B_X2_readNumber_4
      exact br_t (by decide) (hq M hc only.rf)
    · show B_X10_number_4 120 Q _ _ _ _
      unfold B_X10_number_4
      exact br_t (by decide) (hq M hm OX.rf)
  | succ k ih =>
    intro i p v hi hp hv
    have p10 : 10 ^ i ≤ 10 ^ 4 := Nat.pow_le_pow_right (by decide) (by omega)
    by_cases q : zin (bAt en B p) 48 57
    · obtain ⟨g, hg, eg⟩ := dig_of q
      have hpe : p < en := by
        by_cases w : p < en
        · exact w
        · unfold bAt at eg
          rw [if_neg w] at eg
          exact absurd eg ((show ∀ g, g ≤ 9 → ¬ (-1 : Int32) = nI (48 + g) by decide) g hg)
      obtain ⟨p', v', h1, h2, -, h4, h5⟩ := ih (i + 1) (p + 1) (10 * v + g) (by omega) (by omega) (by rw [Nat.pow_succ]; omega)
      refine ⟨p', v', ⟨by omega, h1.2⟩, h2, fun _ _ => by omega, fun c M Q hc hq => ?_, fun c o M Q hm hq => ?_⟩
      · show B_X2_readNumber_4 98 Q _ _ _ _
        unfold B_X2_readNumber_4
        refine br_f (nI_ge (a := i) (b := 4) (by omega) (by decide)) (c_next hc he hp ?_)
        rw [e_isDigit]
        refine b1t q (c_next hc he hp ?_)
        rw [eg, cdig v g hg]
        intro x ex M1 e1 y ey
        rw [nI_1] at ey
        subst ex e1 ey
        exact h4 c _ Q hc.go (fun M' c' o' => hq M' c' (c_go.tr o'))
      · show B_X10_number_4 120 Q _ _ _ _
        unfold B_X10_number_4
        refine br_f (nI_ge (a := i) (b := 4) (by omega) (by decide)) (m_byte hm he hp ?_)
        rw [e_mDigit]
        refine b1t q (m_byte hm he hp ?_)
        rw [eg, mdig v g]
        intro x ex M1 e1 y ey
        rw [nI_1] at ey
        subst ex e1 ey
        exact h5 c o _ Q hm.go (fun M' c' o' => hq M' c' ((OX.mu (by omega)).tr o'))
    · refine ⟨p, v, ⟨Nat.le_refl _, hp⟩, by omega, fun _ z => absurd z q, fun c M Q hc hq => ?_, fun c o M Q hm hq => ?_⟩
      · show B_X2_readNumber_4 98 Q _ _ _ _
        unfold B_X2_readNumber_4
        refine br_f (nI_ge (a := i) (b := 4) (by omega) (by decide)) (c_next hc he hp ?_)
        rw [e_isDigit]
        exact b1f q (hq M hc only.rf)
      · show B_X10_number_4 120 Q _ _ _ _
        unfold B_X10_number_4
        refine br_f (nI_ge (a := i) (b := 4) (by omega) (by decide)) (m_byte hm he hp ?_)
        rw [e_mDigit]
        exact b1f q (hq M hm OX.rf)
/-- names -/
def nmZ (u : Nat) (s : Int32) : Int32 := if NA (3 * u + 0) = s then 0 else if NA (3 * u + 1) = s then 1 else if NA (3 * u + 2) = s then 2 else -1
theorem c_name {s : Int32} {M : Mem} {Q : Int32 → Mem → Prop} (hu : u < 2) (h : M 98 2 = nI u) (hQ : Q (nmZ u s) M) : wp_X2_nameOf 98 s M Q := by
  have st : ∀ (i n : Nat), i < 3 → (NA (3 * u + i) = s → Q (nI i) M) → (¬ NA (3 * u + i) = s → l_X2_nameOf_2 98 Q s n (nI (i + 1)) M) → l_X2_nameOf_2 98 Q s (n + 1) (nI i) M := by
    intro i n hi h1 h2
    show B_X2_nameOf_2 98 Q _ _ _ _
    unfold B_X2_nameOf_2 b_X2_nameOf_39
    refine br_f (nI_ge (a := i) (b := 3) (by omega) (by decide)) ?_
    rw [h, show (3 : Int32) = nI 3 from rfl, pk_mul, nI_add, show u * 3 + i = 3 * u + i from by omega]
    intro x ex
    subst ex
    refine br_f (nI_pos (by omega)) (br_f (nI_ge (by omega) (by decide)) ⟨vp_in_nI (by omega) (by decide), ?_⟩)
    rw [nI_clamp (by omega)]
    refine ⟨fun z => ?_, h1⟩
    intro y ey
    rw [nI_1] at ey
    subst ey
    exact h2 z
  unfold wp_X2_nameOf
  refine ⟨by decide, 4, ?_⟩
  unfold nmZ at hQ
  refine st 0 3 (by omega) (fun z => ?_) (fun z0 => st 1 2 (by omega) (fun z => ?_) (fun z1 => st 2 1 (by omega) (fun z => ?_) (fun z2 => ?_)))
  · rw [if_pos z] at hQ; exact hQ
  · rw [if_neg z0, if_pos z] at hQ; exact hQ
  · rw [if_neg z0, if_neg z1, if_pos z] at hQ; exact hQ
  · rw [if_neg z0, if_neg z1, if_neg z2] at hQ
    show B_X2_nameOf_2 98 Q _ _ _ _
    unfold B_X2_nameOf_2
    exact br_t (by decide) hQ
theorem m_named {p o : Nat} {c : List Int32} {s : Int32} {M : Mem} {Q : Mem → Prop} (hu : u < 2) (h : MX u en B p c 1 o M) (hl : c.length < 50) (h0 : nmZ u s = -1 → ∀ M', MX u en B p c 0 o M' → OX M M' → Q M') (h1 : ∀ i, i < 3 → nmZ u s = nI i → ∀ M', MX u en B (p + 1) (c ++ [10000 + nI i]) 1 o M' → OX M M' → Q M') : wp_X10_named 120 s M Q := by
  have no : ∀ v2 v3, nmZ u s = -1 → b_X10_named_92 120 Q v2 v3 120 0 M := by
    intro v2 v3 e
    unfold b_X10_named_92
    refine ⟨by unfold isb; decide, ?_⟩
    intro M1 e1
    have m1 : MX u en B p c 0 o M1 := by rw [e1]; exact h.good
    rw [m1.2.1.2.2]
    exact ⟨fun _ => h0 e M1 m1 (by rw [e1]; exact OX.mu (by omega)), fun z => absurd rfl z⟩
  have yes : ∀ (v2 v3 : Int32) (i : Nat), i < 3 → nmZ u s = nI i → ((¬ v2 = 0 ∧ i = 0) ∨ (v2 = 0 ∧ ¬ v3 = 0 ∧ i = 1) ∨ (v2 = 0 ∧ v3 = 0 ∧ i = 2)) → b_X10_named_87 120 Q v2 v3 120 M := by
    intro v2 v3 i hi e hv
    unfold b_X10_named_87 b_X10_named_92 b_X10_named_133
    refine ⟨by unfold isb; decide, ?_⟩
    intro M1 e1
    have m1 : MX u en B p c 1 o M1 := by rw [e1]; exact h.good
    have o1 : OX M M1 := by rw [e1]; exact OX.mu (by omega)
    rw [m1.2.1.2.2]
    refine ⟨fun z => absurd z (by decide), fun _ => ?_⟩
    intro M2 e2
    have m2 : MX u en B (p + 1) c 1 o M2 := by rw [e2]; exact m1.go
    have o2 : OX M1 M2 := by rw [e2]; exact OX.mu (by omega)
    have fin : wp_X10_adds 120 (10000 + nI i) M2 (fun M_1 => Q M_1) := m_adds m2 hl (fun M3 m3 o3 => h1 i hi e M3 m3 ((o1.tr o2).tr o3))
    rcases hv with ⟨a, rfl⟩ | ⟨a, b, rfl⟩ | ⟨a, b, rfl⟩
    · exact ⟨fun z => absurd z a, fun _ => fin⟩
    · exact ⟨fun _ => ⟨fun z => absurd z b, fun _ => fin⟩, fun z => absurd a z⟩
    · exact ⟨fun _ => ⟨fun _ => fin, fun z => absurd b z⟩, fun z => absurd a z⟩
  have e71 : ∀ v2 v3 w : Int32, (v2 = bi (NA (3 * u + 0) = s) ∧ v3 = bi (NA (3 * u + 1) = s) ∧ w = bi (NA (3 * u + 2) = s)) → b_X10_named_71 120 Q v2 v3 w M := by
    rintro v2 v3 w ⟨e2, e3, e4⟩
    unfold b_X10_named_71
    by_cases q0 : NA (3 * u + 0) = s
    · rw [bi_t q0] at e2
      subst e2
      have en : nmZ u s = nI 0 := by unfold nmZ; rw [if_pos q0]; rfl
      exact ⟨fun _ => yes _ _ 0 (by omega) en (Or.inl ⟨by decide, rfl⟩), fun z => absurd z (by decide)⟩
    · rw [bi_f q0] at e2
      subst e2
      refine ⟨fun z => absurd rfl z, fun _ => ?_⟩
      by_cases q1 : NA (3 * u + 1) = s
      · rw [bi_t q1] at e3
        subst e3
        have en : nmZ u s = nI 1 := by unfold nmZ; rw [if_neg q0, if_pos q1]; rfl
        exact ⟨fun _ => yes _ _ 1 (by omega) en (Or.inr (Or.inl ⟨rfl, by decide, rfl⟩)), fun z => absurd z (by decide)⟩
      · rw [bi_f q1] at e3
        subst e3
        refine ⟨fun z => absurd rfl z, fun _ => ?_⟩
        by_cases q2 : NA (3 * u + 2) = s
        · rw [bi_t q2] at e4
          subst e4
          have en : nmZ u s = nI 2 := by unfold nmZ; rw [if_neg q0, if_neg q1, if_pos q2]; rfl
          exact ⟨fun z => absurd z (by decide), fun _ => yes _ _ 2 (by omega) en (Or.inr (Or.inr ⟨rfl, rfl, rfl⟩))⟩
        · rw [bi_f q2] at e4
          subst e4
          have en : nmZ u s = -1 := by unfold nmZ; rw [if_neg q0, if_neg q1, if_neg q2]
          exact ⟨fun _ => no _ _ en, fun z => absurd rfl z⟩
  have bb : ∀ (x y : Int32) (K : Int32 → Prop), K (bi (y = x)) → (¬ x = y → K 0) ∧ (x = y → K 1) := by
    intro x y K hK
    by_cases q : y = x
    · rw [bi_t q] at hK; exact ⟨fun z => absurd q.symm z, fun _ => hK⟩
    · rw [bi_f q] at hK; exact ⟨fun _ => hK, fun z => absurd z.symm q⟩
  have hu2 : u = 0 ∨ u = 1 := by omega
  unfold wp_X10_named
  refine ⟨by decide, ?_⟩
  rw [h.1.1]
  rcases hu2 with rfl | rfl
  · refine ⟨fun z => absurd rfl z, fun _ => ?_⟩
    unfold b_X10_named_15
    refine bb s (NA 0) (fun b => b_X10_named_23 120 Q s b M) ?_
    show b_X10_named_23 120 Q s (bi (NA 0 = s)) M
    unfold b_X10_named_23
    rw [h.1.1]
    refine ⟨fun z => absurd rfl z, fun _ => ?_⟩
    unfold b_X10_named_39
    refine bb s (NA 1) (fun b => b_X10_named_47 120 Q s (bi (NA 0 = s)) b M) ?_
    show b_X10_named_47 120 Q s (bi (NA 0 = s)) (bi (NA 1 = s)) M
    unfold b_X10_named_47
    rw [h.1.1]
    refine ⟨fun z => absurd rfl z, fun _ => ?_⟩
    unfold b_X10_named_63
    refine bb s (NA 2) (fun b => b_X10_named_71 120 Q (bi (NA 0 = s)) (bi (NA 1 = s)) b M) ?_
    exact e71 _ _ _ ⟨rfl, rfl, rfl⟩
  · refine ⟨fun _ => ?_, fun z => absurd z (by decide)⟩
    unfold b_X10_named_15
    refine bb s (NA 3) (fun b => b_X10_named_23 120 Q s b M) ?_
    show b_X10_named_23 120 Q s (bi (NA 3 = s)) M
    unfold b_X10_named_23
    rw [h.1.1]
    refine ⟨fun _ => ?_, fun z => absurd z (by decide)⟩
    unfold b_X10_named_39
    refine bb s (NA 4) (fun b => b_X10_named_47 120 Q s (bi (NA 3 = s)) b M) ?_
    show b_X10_named_47 120 Q s (bi (NA 3 = s)) (bi (NA 4 = s)) M
    unfold b_X10_named_47
    rw [h.1.1]
    refine ⟨fun _ => ?_, fun z => absurd z (by decide)⟩
    unfold b_X10_named_63
    refine bb s (NA 5) (fun b => b_X10_named_71 120 Q (bi (NA 3 = s)) (bi (NA 4 = s)) b M) ?_
    exact e71 _ _ _ ⟨rfl, rfl, rfl⟩
end
