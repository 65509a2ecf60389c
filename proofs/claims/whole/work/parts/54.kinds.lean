/-! ===== how many bits; heard, cold ===== -/
def pcN (j : Nat) : Nat := (List.range 10).foldl (fun a i => a + j / 2 ^ i % 2) 0
def bcE (a0 : Int32) : Int32 :=
  let x1 := a0 - ((ius a0 1) &&& 1431655765); let x2 := (x1 &&& 858993459) + ((ius x1 2) &&& 858993459); let x3 := (x2 + (ius x2 4)) &&& 252645135; let x4 := x3 + (ius x3 8); let x5 := x4 + (ius x4 16); x5 &&& 63
set_option maxRecDepth 20000 in
theorem bc_all : ∀ j, j < 1024 → bcE (nI j) = nI (pcN j) := by decide +kernel
set_option maxRecDepth 20000 in
theorem clr_all : ∀ j, j < 1024 → j ≠ 0 → nI j &&& (nI j - 1) = nI (j &&& (j - 1)) ∧ pcN j = pcN (j &&& (j - 1)) + 1 ∧ (j &&& (j - 1)) < j := by decide +kernel
set_option maxRecDepth 20000 in
theorem pc_le : ∀ j, j < 1024 → pcN j ≤ 10 := by decide +kernel
theorem sp_bitCount {j : Nat} {M : Mem} {Q : Int32 → Mem → Prop} (hj : j < 1024) (hQ : Q (nI (pcN j)) M) : wp_J6_bitCount_0f7a4 (nI j) M Q := by
  unfold wp_J6_bitCount_0f7a4
  intro x1 e1 x2 e2 x3 e3 x4 e4 x5 e5
  subst e1 e2 e3 e4 e5
  have h := bc_all j hj
  unfold bcE at h
  dsimp only at h
  rw [h]
  exact hQ
theorem sp_bits {j : Nat} {M : Mem} {Q : Int32 → Mem → Prop} (hj : j < 1024) (hQ : Q (nI (pcN j)) M) : wp_X10_bits (nI j) M Q := by
  unfold wp_X10_bits
  have key : ∀ (n j c : Nat), j < n → j < 1024 → Q (nI (c + pcN j)) M → l_X10_bits_4 Q n (nI c) (nI j) M := by
    intro n
    induction n with
    | zero => intro j c h; omega
    | succ n ih =>
      intro j c hn h1 hq
      show B_X10_bits_4 Q _ _ _ _
      unfold B_X10_bits_4
      by_cases h0 : j = 0
      · subst h0
        refine ⟨fun _ => ?_, fun z => absurd nI_0 z⟩
        exact hq
      · obtain ⟨c1, c2, c3⟩ := clr_all j h1 h0
        refine ⟨fun z => absurd z (nI_ne0 (by omega) (by omega)), fun _ => ?_⟩
        intro x ex y ey
        rw [nI_1] at ex
        rw [c1] at ey
        subst ex ey
        refine ih _ _ (by omega) (by omega) ?_
        rw [c2] at hq
        rw [show c + 1 + pcN (j &&& (j - 1)) = c + (pcN (j &&& (j - 1)) + 1) from by omega]
        exact hq
  exact ⟨j + 1, key (j + 1) j 0 (by omega) hj (by rw [Nat.zero_add]; exact hQ)⟩
theorem irm_n {a d : Nat} (ha : a < 2 ^ 31) (h0 : 0 < d) (hd : d < 2 ^ 31) : irm (nI a) (nI d) = nI (a % d) := pk_rem ha h0 hd
def heardF (kd m mark hr : Int32) : Int32 :=
  if kd = 1 then 5 + m else if kd = 2 then 10 else if kd = 3 then 5 - m / 2 else if kd = 4 then 55 + m else if kd = 5 then (if irm hr 2 = 1 then 0 else 10)
  else if kd = 6 then (if nI (pcN (tn mark)) = 1 then 0 else 5 - m / 2) else 5
def coldF (kd m hr : Int32) : Int32 := if kd = 1 ∨ kd = 4 then (if irm hr 2 = 0 then 1 else 0) else if kd = 2 ∨ kd = 5 then 1 + irm m 2 else if kd = 3 ∨ kd = 6 then 3 else 1
theorem lamb_all : ∀ m, m ≤ 9 → imx 0 (5 - nI m / 2) = 5 - nI m / 2 := by decide
theorem sp_lamb {q m : Nat} {M : Mem} {Q : Int32 → Mem → Prop} (k : kdT q = 5) (hm : M q 1 = nI m) (hm9 : m ≤ 9) (hQ : Q (5 - nI m / 2) M) : wp_X5_heardAsLamb q M Q := by
  refine ⟨k, ?_⟩
  rw [hm, lamb_all m hm9]
  exact hQ
theorem par2 {hr : Nat} (h : hr < 2 ^ 31) : irm (nI hr) 2 = 0 ∨ irm (nI hr) 2 = 1 := by
  have e : irm (nI hr) 2 = nI (hr % 2) := irm_n h (by decide) (by decide)
  rw [e]
  have : hr % 2 = 0 ∨ hr % 2 = 1 := by omega
  rcases this with h | h <;> rw [h]
  · exact Or.inl rfl
  · exact Or.inr rfl
theorem bell_all : ∀ m, m ≤ 9 → (5 + nI m) + 50 = 55 + nI m := by decide
theorem nI7 {x : Int32} (h : zb x 6) : x = 0 ∨ x = 1 ∨ x = 2 ∨ x = 3 ∨ x = 4 ∨ x = 5 ∨ x = 6 := by
  obtain ⟨j, hj, rfl⟩ := h
  have : j = 0 ∨ j = 1 ∨ j = 2 ∨ j = 3 ∨ j = 4 ∨ j = 5 ∨ j = 6 := by omega
  rcases this with rfl | rfl | rfl | rfl | rfl | rfl | rfl
  · exact Or.inl rfl
  · exact Or.inr (Or.inl rfl)
  · exact Or.inr (Or.inr (Or.inl rfl))
  · exact Or.inr (Or.inr (Or.inr (Or.inl rfl)))
  · exact Or.inr (Or.inr (Or.inr (Or.inr (Or.inl rfl))))
  · exact Or.inr (Or.inr (Or.inr (Or.inr (Or.inr (Or.inl rfl)))))
  · exact Or.inr (Or.inr (Or.inr (Or.inr (Or.inr (Or.inr rfl)))))
theorem sp_heard {q hr : Nat} {M : Mem} {Q : Int32 → Mem → Prop} (k : kdT q = 5) (h0 : zb (M q 0) 6) (h1 : zb (M q 1) 9) (h4 : zb (M q 4) 63) (hh : hr < 2 ^ 31) (hQ : Q (heardF (M q 0) (M q 1) (M q 4) (nI hr)) M) : wp_X5_heard q (nI hr) M Q := by
  unfold wp_X5_heard
  refine ⟨k, ?_⟩
  obtain ⟨m, hm9, hm⟩ := h1
  obtain ⟨mk, hmk, hmk2⟩ := h4
  unfold heardF at hQ
  rw [hm] at hQ ⊢
  rcases nI7 h0 with e | e | e | e | e | e | e <;> rw [e] at hQ ⊢ <;> simp at hQ ⊢
  · exact hQ
  · exact hQ
  · exact hQ
  · exact sp_lamb k hm hm9 hQ
  · rw [bell_all m hm9]; exact hQ
  · rcases par2 hh with p | p <;> rw [p] at hQ ⊢ <;> simp at hQ ⊢ <;> exact hQ
  · rw [hmk2] at hQ ⊢
    rw [tn, nI_clamp (by omega)] at hQ
    refine sp_bitCount (by omega) ?_
    by_cases p : nI (pcN mk) = 1
    · rw [if_pos p] at hQ
      exact ⟨fun z => absurd p z, fun _ => hQ⟩
    · rw [if_neg p] at hQ
      exact ⟨fun _ => sp_lamb k hm hm9 hQ, fun z => absurd z p⟩
theorem sp_cold {q hr : Nat} {M : Mem} {Q : Int32 → Mem → Prop} (k : kdT q = 5) (h0 : zb (M q 0) 6) (hh : hr < 2 ^ 31) (hQ : Q (coldF (M q 0) (M q 1) (nI hr)) M) : wp_X5_cold q (nI hr) M Q := by
  unfold wp_X5_cold
  refine ⟨k, ?_⟩
  unfold coldF at hQ
  rcases nI7 h0 with e | e | e | e | e | e | e <;> rw [e] at hQ ⊢ <;> simp at hQ ⊢
  · exact hQ
  · rcases par2 hh with p | p <;> rw [p] at hQ ⊢ <;> simp at hQ ⊢ <;> exact hQ
  · exact hQ
  · exact hQ
  · rcases par2 hh with p | p <;> rw [p] at hQ ⊢ <;> simp at hQ ⊢ <;> exact hQ
  · exact hQ
  · exact hQ
/-- the reference's way to a SHEEP's field -/
theorem sp_its {k w : Nat} {M : Mem} {Q : Int32 → Mem → Prop} (hk : k < 7) (hw : w < 6) (hQ : Q (M 121 (30 + 6 * k + w)) M) : wp_X10_its 120 (nI k) (nI w) M Q := by
  unfold wp_X10_its
  rw [show (30 : Int32) = nI 30 from rfl, show (6 : Int32) = nI 6 from rfl, pk_mul, nI_add, nI_add]
  refine ⟨by decide, vp_in_nI (by omega) (by decide), ?_⟩
  rw [nI_clamp (by omega)]
  exact hQ
theorem sp_at {s : Nat} {M : Mem} {Q : Int32 → Mem → Prop} (hs : s < 6) (hQ : Q (M 121 (18 + 2 * s)) M) : wp_X10_at 120 (nI s) M Q := by
  unfold wp_X10_at
  rw [show (18 : Int32) = nI 18 from rfl, show (2 : Int32) = nI 2 from rfl, pk_mul, nI_add]
  refine ⟨by decide, vp_in_nI (by omega) (by decide), ?_⟩
  rw [nI_clamp (by omega)]
  exact hQ
theorem sp_gets {k w : Nat} {v : Int32} {M : Mem} {Q : Mem → Prop} (hk : k < 7) (hw : w < 6) (hQ : Q (mu M 121 (30 + 6 * k + w) v)) : wp_X10_gets 120 (nI k) (nI w) v M Q := by
  unfold wp_X10_gets
  rw [show (30 : Int32) = nI 30 from rfl, show (6 : Int32) = nI 6 from rfl, pk_mul, nI_add, nI_add]
  refine ⟨by decide, vp_in_nI (by omega) (by decide), ?_⟩
  intro M1 e1
  rw [nI_clamp (by omega)] at e1
  subst e1
  exact hQ
def apartZ (a b : Int32) : Int32 := if b ≤ a then a - b else b - a
theorem e_apart (a b : Int32) (M : Mem) (Q : Int32 → Mem → Prop) : wp_X10_apart a b M Q = Q (apartZ a b) M := by
  unfold wp_X10_apart apartZ
  by_cases h : b ≤ a <;> simp [h]
theorem sp_mHeard {k : Nat} {M : Mem} {Q : Int32 → Mem → Prop} (hk : k < 7) (h0 : zb (M 121 (30 + 6 * k + 0)) 6) (h4 : zb (M 121 (30 + 6 * k + 4)) 63) (hQ : Q (heardF (M 121 (30 + 6 * k + 0)) (M 121 (30 + 6 * k + 1)) (M 121 (30 + 6 * k + 4)) (M 121 0)) M) : wp_X10_heard 120 (nI k) M Q := by
  unfold wp_X10_heard
  refine ⟨by decide, ?_⟩
  refine sp_its (w := 1) hk (by decide) ?_
  refine sp_its (w := 0) hk (by decide) ?_
  obtain ⟨mk, hmk, hmk2⟩ := h4
  unfold heardF at hQ
  rcases nI7 h0 with e | e | e | e | e | e | e <;> rw [e] at hQ ⊢ <;> simp at hQ ⊢
  · exact hQ
  · exact hQ
  · exact hQ
  · exact hQ
  · exact hQ
  · by_cases p : irm (M 121 0) 2 = 1
    · rw [if_pos p] at hQ
      exact ⟨fun z => absurd p z, fun _ => hQ⟩
    · rw [if_neg p] at hQ
      exact ⟨fun _ => hQ, fun z => absurd z p⟩
  · refine sp_its (w := 4) hk (by decide) ?_
    rw [hmk2] at hQ ⊢
    rw [tn, nI_clamp (by omega)] at hQ
    refine sp_bits (by omega) ?_
    by_cases p : nI (pcN mk) = 1
    · rw [if_pos p] at hQ
      exact ⟨fun z => absurd p z, fun _ => hQ⟩
    · rw [if_neg p] at hQ
      exact ⟨fun _ => hQ, fun z => absurd z p⟩
theorem sp_mCold {k : Nat} {M : Mem} {Q : Int32 → Mem → Prop} (hk : k < 7) (h0 : zb (M 121 (30 + 6 * k + 0)) 6) (hQ : Q (coldF (M 121 (30 + 6 * k + 0)) (M 121 (30 + 6 * k + 1)) (M 121 0)) M) : wp_X10_cold 120 (nI k) M Q := by
  unfold wp_X10_cold
  refine ⟨by decide, ?_⟩
  refine sp_its (w := 0) hk (by decide) ?_
  unfold coldF at hQ
  rcases nI7 h0 with e | e | e | e | e | e | e <;> rw [e] at hQ ⊢ <;> simp at hQ ⊢
  · exact hQ
  · by_cases p : irm (M 121 0) 2 = 0
    · rw [if_pos p] at hQ
      exact ⟨fun z => absurd p z, fun _ => hQ⟩
    · rw [if_neg p] at hQ
      exact ⟨fun _ => hQ, fun z => absurd z p⟩
  · exact sp_its (w := 1) hk (by decide) hQ
  · exact hQ
  · by_cases p : irm (M 121 0) 2 = 0
    · rw [if_pos p] at hQ
      exact ⟨fun z => absurd p z, fun _ => hQ⟩
    · rw [if_neg p] at hQ
      exact ⟨fun _ => hQ, fun z => absurd z p⟩
  · exact sp_its (w := 1) hk (by decide) hQ
  · exact hQ
