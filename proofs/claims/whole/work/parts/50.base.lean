/-! ===== pure words: what the cells of the class and of the reference say ===== -/
abbrev tn (x : Int32) : Nat := x.toNatClampNeg
def bi (p : Prop) [Decidable p] : Int32 := if p then 1 else 0
theorem bi0 (p : Prop) [Decidable p] : (bi p = 0) = ¬ p := by
  unfold bi
  by_cases h : p <;> simp [h]
theorem bi1 (p : Prop) [Decidable p] : (bi p = 1) = p := by
  unfold bi
  by_cases h : p <;> simp [h]
theorem bib (p : Prop) [Decidable p] : isb (bi p) := by
  unfold bi isb
  by_cases h : p <;> simp [h]
theorem bi_t {p : Prop} [Decidable p] (h : p) : bi p = 1 := if_pos h
theorem bi_f {p : Prop} [Decidable p] (h : ¬ p) : bi p = 0 := if_neg h
theorem i_lt {x y : Int32} : x < y ↔ x.toInt < y.toInt := Int32.lt_iff_toInt_lt
theorem i_le {x y : Int32} : x ≤ y ↔ x.toInt ≤ y.toInt := Int32.le_iff_toInt_le
theorem i_eq {x y : Int32} : x = y ↔ x.toInt = y.toInt := Int32.toInt_inj.symm
abbrev zin (a lo hi : Int32) : Prop := lo ≤ a ∧ a ≤ hi
theorem zin_nI {a : Int32} {n : Nat} (hn : n < 2 ^ 31) : zin a 0 (nI n) ↔ ∃ k, k ≤ n ∧ a = nI k := by
  constructor
  · intro ⟨h1, h2⟩
    refine nI_of2 (nI_toInt hn) (fun h => ?_) h2
    rw [i_lt] at h
    rw [i_le] at h1
    omega
  · rintro ⟨k, hk, rfl⟩
    exact ⟨nI_pos' (by omega), nI_le hk hn⟩
theorem e_isWithin (a b : Int32) (M : Mem) (Q : Int32 → Mem → Prop) : wp_X9_isWithin a b M Q = Q (bi (zin a 0 b)) M := by
  unfold wp_X9_isWithin
  by_cases h1 : a < 0
  · have : ¬ zin a 0 b := fun h => by rw [i_lt] at h1; have := i_le.mp h.1; omega
    simp [h1, bi_f this]
  · by_cases h2 : b < a
    · have : ¬ zin a 0 b := fun h => by rw [i_lt] at h2; have := i_le.mp h.2; omega
      simp [h1, h2, bi_f this]
    · have : zin a 0 b := ⟨i_le.mpr (by rw [i_lt] at h1; omega), i_le.mpr (by rw [i_lt] at h2; omega)⟩
      simp [h1, h2, bi_t this]
theorem e_in (a lo hi : Int32) (M : Mem) (Q : Int32 → Mem → Prop) : wp_X10_in a lo hi M Q = Q (bi (zin a lo hi)) M := by
  unfold wp_X10_in
  by_cases h1 : a < lo
  · have : ¬ zin a lo hi := fun h => by rw [i_lt] at h1; have := i_le.mp h.1; omega
    simp [h1, bi_f this]
  · by_cases h2 : hi < a
    · have : ¬ zin a lo hi := fun h => by rw [i_lt] at h2; have := i_le.mp h.2; omega
      simp [h1, h2, bi_f this]
    · have : zin a lo hi := ⟨i_le.mpr (by rw [i_lt] at h1; omega), i_le.mpr (by rw [i_lt] at h2; omega)⟩
      simp [h1, h2, bi_t this]
theorem e_isCell (a : Int32) (M : Mem) (Q : Int32 → Mem → Prop) : wp_X9_isCell a M Q = Q (bi (zin a 0 9)) M := by
  unfold wp_X9_isCell
  rw [e_isWithin]
  simp [bib]
theorem e_isSheet (a : Int32) (M : Mem) (Q : Int32 → Mem → Prop) : wp_X9_isSheet a M Q = Q (bi (zin a 0 3)) M := by
  unfold wp_X9_isSheet
  rw [e_isWithin]
  simp [bib]
theorem e_isKindWithM (a : Int32) (M : Mem) (Q : Int32 → Mem → Prop) : wp_X9_isKindWithM a M Q = Q (bi (zin a 0 69)) M := by
  unfold wp_X9_isKindWithM
  rw [e_isWithin]
  simp [bib]
theorem e_mCell (a : Int32) (M : Mem) (Q : Int32 → Mem → Prop) : wp_X10_isCell a M Q = Q (bi (zin a 0 9)) M := by
  unfold wp_X10_isCell
  rw [e_in]
  simp [bib]
theorem e_mSheet (a : Int32) (M : Mem) (Q : Int32 → Mem → Prop) : wp_X10_isSheet a M Q = Q (bi (zin a 0 3)) M := by
  unfold wp_X10_isSheet
  rw [e_in]
  simp [bib]
theorem e_isSeeker (a : Int32) (M : Mem) (Q : Int32 → Mem → Prop) : wp_X9_isSeeker 0 a M Q = Q (bi (zin a 0 (M 2 6 - 1))) M := by
  unfold wp_X9_isSeeker
  rw [e_isWithin]
  simp [bib, show kdT 0 = 9 from by decide]
theorem e_isSheep (a : Int32) (M : Mem) (Q : Int32 → Mem → Prop) : wp_X9_isSheep 0 a M Q = Q (bi (zin a 0 (M 2 7 - 1))) M := by
  unfold wp_X9_isSheep
  rw [e_isWithin]
  simp [bib, show kdT 0 = 9 from by decide]
theorem e_isMark (a : Int32) (M : Mem) (Q : Int32 → Mem → Prop) : wp_X9_isMark 0 a M Q = Q (bi (zin a 0 (ish 1 (M 2 6) - 1))) M := by
  unfold wp_X9_isMark
  rw [e_isWithin]
  simp [bib, show kdT 0 = 9 from by decide]
theorem e_mSeeker (a : Int32) (M : Mem) (Q : Int32 → Mem → Prop) : wp_X10_isSeeker 120 a M Q = Q (bi (zin a 0 (M 121 3 - 1))) M := by
  unfold wp_X10_isSeeker
  rw [e_in]
  simp [bib, show kdT 120 = 10 from by decide]
theorem e_mSheep (a : Int32) (M : Mem) (Q : Int32 → Mem → Prop) : wp_X10_isSheep 120 a M Q = Q (bi (zin a 0 (M 121 2 - 1))) M := by
  unfold wp_X10_isSheep
  rw [e_in]
  simp [bib, show kdT 120 = 10 from by decide]
theorem e_mMark (a : Int32) (M : Mem) (Q : Int32 → Mem → Prop) : wp_X10_isMark 120 a M Q = Q (bi (zin a 0 (ish 1 (M 121 3) - 1))) M := by
  unfold wp_X10_isMark
  rw [e_in]
  simp [bib, show kdT 120 = 10 from by decide]
/-- rows of the class -/
def enc (x : Int32) : Int32 := if x < 10000 then x else if x < 20000 then 9999 - x else 20000 - x
def RR (M : Mem) (h : Nat) (sz : Int32) (g : Nat → Int32) : Prop := M h 1 = sz ∧ ∀ j, j < tn sz → M (h + 1) j = g j
def LR (M : Mem) (q : Nat) (mst sz : Int32) (g : Nat → Int32) : Prop := M q 0 = mst ∧ RR M (q + 1) (if sz < 0 then 0 else sz) (fun j => enc (g j))
def MR (M : Mem) (o : Nat) (r : Nat → Int32) : Prop :=
  (M o 8 = r 0 ∧ M o 7 = r 2 ∧ M o 6 = r 3) ∧ (∀ c, c < 10 → M (o + 11) c = r (8 + c)) ∧
  (∀ i, i < tn (r 3) → M (o + 12 + 4 + i) 0 = r (18 + 2 * i) ∧ M (o + 12 + 4 + i) 1 = r (19 + 2 * i)) ∧
  (∀ i, i < tn (r 2) → ∀ k, k < 6 → M (o + 13 + 9 + i) k = r (30 + 6 * i + k)) ∧
  LR M (o + 1) 99 (r 6) (fun j => r (142 + j)) ∧ LR M (o + 6) 1 (r 7) (fun j => r (192 + j))
def WR (M : Mem) (w : Nat) (r : Nat → Int32) : Prop := M w 3 = r 1 ∧ MR M (w + 1) r ∧ RR M (w + 30) (r 4) (fun j => r (72 + j)) ∧ RR M (w + 32) (r 5) (fun j => r (122 + j))
theorem ln_law {q : Nat} (k : kdT q = 0) : lnT (q + 1 + 1) = 50 ∧ lnT (q + 3 + 1) = 50 := sh_all (fun q => kdT q = 0 → lnT (q + 1 + 1) = 50 ∧ lnT (q + 3 + 1) = 50) (by decide +kernel) (fun h hh q => absurd (q.symm.trans (kd_out hh)) (by decide)) q k
theorem ln_finds {o : Nat} (k : kdT o = 1) : lnT (o + 14 + 1) = 7 := sh_all (fun q => kdT q = 1 → lnT (q + 14 + 1) = 7) (by decide +kernel) (fun h hh q => absurd (q.symm.trans (kd_out hh)) (by decide)) o k
/-- what changes: only cells of a set -/
def only (S : Nat → Prop) (M M' : Mem) : Prop := ∀ b, ¬ S b → M' b = M b
theorem only.rf {S : Nat → Prop} {M : Mem} : only S M M := fun _ _ => rfl
theorem only.tr {S : Nat → Prop} {M M1 M2 : Mem} (h1 : only S M M1) (h2 : only S M1 M2) : only S M M2 := fun b hb => (h2 b hb).trans (h1 b hb)
theorem only.mono {S T : Nat → Prop} {M M1 : Mem} (h : only S M M1) (hs : ∀ b, S b → T b) : only T M M1 := fun b hb => h b (fun z => hb (hs b z))
theorem only.mu {S : Nat → Prop} {M : Mem} {a k : Nat} {v : Int32} (h : S a) : only S M (mu M a k v) := fun b hb => mu_ne (fun z => hb (z ▸ h))
theorem mu_hit {M : Mem} {a k : Nat} {v : Int32} : mu M a k v a k = v := by simp [mu]
theorem mu_off {M : Mem} {a k j : Nat} {v : Int32} (h : j ≠ k) : mu M a k v a j = M a j := by simp [mu, h]
/-- a row as a pile: what lies in it, the last first -/
def SK (M : Mem) (a : Nat) (st : List Int32) : Prop := ∀ i, i < st.length → M a i = st.reverse.getD i 0
theorem SK.push {M : Mem} {a : Nat} {st : List Int32} {v : Int32} (h : SK M a st) : SK (mu M a st.length v) a (v :: st) := by
  intro i hi
  simp only [List.length_cons] at hi
  by_cases hq : i = st.length
  · subst hq
    rw [mu_hit]
    simp [List.getD_eq_getElem?_getD]
  · rw [mu_off hq, h i (by omega)]
    simp only [List.reverse_cons, List.getD_eq_getElem?_getD]
    rw [List.getElem?_append_left (by simp; omega)]
theorem SK.pop {M : Mem} {a : Nat} {st : List Int32} {v : Int32} (h : SK M a (v :: st)) : SK M a st := by
  intro i hi
  rw [h i (by simp; omega)]
  simp only [List.reverse_cons, List.getD_eq_getElem?_getD]
  rw [List.getElem?_append_left (by simp; omega)]
theorem SK.top {M : Mem} {a : Nat} {st : List Int32} {v : Int32} (h : SK M a (v :: st)) : M a st.length = v := by
  rw [h st.length (by simp)]
  simp [List.getD_eq_getElem?_getD]
theorem SK.kept {M M' : Mem} {a : Nat} {st : List Int32} (h : SK M a st) (e : M' a = M a) : SK M' a st := fun i hi => by rw [e]; exact h i hi
theorem SK.first {M : Mem} {a : Nat} {v : Int32} (h : SK M a [v]) : M a 0 = v := h.top
