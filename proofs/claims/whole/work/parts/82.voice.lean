/-! ===== VOICES ===== -/
def bdZ (k act : Nat) : Int32 :=
  if act = 0 then (if k = 1 ∨ k = 4 then 20 else 10) else if act = 1 then (if k = 2 then 30 else if k = 5 then 60 else 11) else if act = 2 then (if k = 3 then 40 else if k = 6 then 70 else 12) else (if k = 4 then 50 else if k = 6 then 71 else 13)
theorem bd_all : ∀ k, k ≤ 6 → ∀ act, act < 4 → (nI k * 4 + nI act = nI (4 * k + act)) ∧ (BO (4 * k + act) = 0 ∧ k ≠ 0 ∧ bdZ (abvN k) act = bdZ k act ∧ KA k = nI (abvN k) ∧ abvN k < k ∨ ¬ BO (4 * k + act) = 0 ∧ BO (4 * k + act) = bdZ k act) := by decide
theorem sp_body {k act : Nat} {M : Mem} {Q : Int32 → Mem → Prop} (hk : k ≤ 6) (ha : act < 4) (hQ : Q (bdZ k act) M) : wp_X7_bodyFrom (nI k) (nI act) M Q := by
  have p : ∀ (m k i : Nat), k ≤ m → i + k ≤ 6 → Q (bdZ k act) M → l_X7_bodyFrom_4 Q (nI act) (m + 1) (nI k) (nI i) M := by
    intro m
    induction m with
    | zero =>
      intro k i hm hi hq
      have : k = 0 := by omega
      subst this
      show B_X7_bodyFrom_4 Q _ _ _ _ _
      unfold B_X7_bodyFrom_4
      obtain ⟨e1, e2⟩ := bd_all 0 (by omega) act ha
      rw [e_isWithin, e_isWithin, e1, nI_clamp (by omega)]
      refine br_f (nI_ge (a := i) (b := 7) (by omega) (by decide)) (b1t (by decide) (b1t ((zin_nI (n := 3) (by decide)).mpr ⟨act, by omega, rfl⟩) ⟨vp_in_nI (by omega) (by decide), fun z => ?_, fun _ => ⟨vp_in_nI (by omega) (by decide), ?_⟩⟩))
      · rcases e2 with e2 | e2
        · exact absurd rfl e2.2.1
        · exact absurd z e2.1
      · rcases e2 with e2 | e2
        · exact absurd rfl e2.2.1
        · rw [e2.2]; exact hq
    | succ m ih =>
      intro k i hm hi hq
      show B_X7_bodyFrom_4 Q _ _ _ _ _
      unfold B_X7_bodyFrom_4
      obtain ⟨e1, e2⟩ := bd_all k (by omega) act ha
      rw [e_isWithin, e_isWithin, e1, nI_clamp (by omega)]
      refine br_f (nI_ge (a := i) (b := 7) (by omega) (by decide)) (b1t ((zin_nI (n := 6) (by decide)).mpr ⟨k, by omega, rfl⟩) (b1t ((zin_nI (n := 3) (by decide)).mpr ⟨act, by omega, rfl⟩) ⟨vp_in_nI (by omega) (by decide), fun z => ?_, fun z => ⟨vp_in_nI (by omega) (by decide), ?_⟩⟩))
      · rcases e2 with ⟨-, e3, e4, e5, e6⟩ | e2
        · refine ⟨vp_in_nI (by omega) (by decide), ?_⟩
          rw [nI_clamp (by omega), e5]
          intro x ex y ey
          rw [nI_1] at ey
          subst ex ey
          exact ih (abvN k) (i + 1) (by omega) (by omega) (by rw [e4]; exact hq)
        · exact absurd z e2.1
      · rcases e2 with e2 | e2
        · exact absurd e2.1 z
        · rw [e2.2]; exact hq
  unfold wp_X7_bodyFrom
  exact ⟨k + 1, p k k 0 (Nat.le_refl _) (by omega) hQ⟩
theorem eS (d : Nat) : wp_X7_speak (d + 1) = wb_X7_speak (wp_X7_speak d) (wp_X7_workOut d) (wp_X7_own d) (wp_X7_above d) := rfl
theorem eW (d : Nat) : wp_X7_workOut (d + 1) = wb_X7_workOut (wp_X7_speak d) (wp_X7_workOut d) (wp_X7_own d) (wp_X7_above d) := rfl
theorem eO (d : Nat) : wp_X7_own (d + 1) = wb_X7_own (wp_X7_speak d) (wp_X7_workOut d) (wp_X7_own d) (wp_X7_above d) := rfl
theorem eA (d : Nat) : wp_X7_above (d + 1) = wb_X7_above (wp_X7_speak d) (wp_X7_workOut d) (wp_X7_own d) (wp_X7_above d) := rfl
def TR (M : Mem) (l : List Int32) : Prop := M 104 1 = nI l.length ∧ l.length ≤ 40 ∧ ∀ j, j < l.length → M 105 j = l.getD j 0
def TV : Nat → Prop := fun b => b = 104 ∨ b = 105
def CV (vk : Nat) (n m : Int32) (M : Mem) : Prop := M 103 1 = nI vk ∧ M 103 2 = n ∧ M 103 3 = m
theorem CV.kept {vk : Nat} {n m : Int32} {M M' : Mem} (h : CV vk n m M) (o : only TV M M') : CV vk n m M' := by
  unfold CV
  rw [o 103 (by unfold TV; omega)]
  exact h
theorem spk {d op k act : Nat} {x : Int32} {l : List Int32} {M : Mem} {Q : Int32 → Mem → Prop} (hk : k ≤ 6) (ha : act < 4) (hop : op < 40) (hT : TR M l) (hl : l.length < 40) (hQ : ∀ M', TR M' (l ++ [bdZ k act]) → only TV M M' → wp_X7_workOut d 103 (bdZ k act) x (nI (op + 1)) M' Q) : wp_X7_speak (d + 1) 103 (nI k) (nI act) x (nI op) M Q := by
  rw [eS]
  unfold wb_X7_speak
  refine ⟨by decide, br_t (nI_lt (b := 40) hop (by decide)) (sp_body hk ha ?_)⟩
  refine sp_append (h := 104) (n := l.length) (by decide) hT.1 (by rw [show lnT (104 + 1) = 40 from by decide]; exact hl) (by rw [show lnT (104 + 1) = 40 from by decide]; decide) ?_
  rw [nI_1]
  refine hQ _ ⟨by rw [mu_hit]; simp, by simp; omega, fun j hj => ?_⟩ ((only.mu (Or.inr rfl)).tr (only.mu (Or.inl rfl)))
  simp only [List.length_append, List.length_cons, List.length_nil] at hj
  rw [mu_ne (by decide)]
  by_cases q : j = l.length
  · subst q; rw [app_at]; exact mu_hit
  · rw [app_lt (by omega), ← hT.2.2 j (by omega)]; exact mu_off q
theorem own1 {d act : Nat} {x op : Int32} {vk : Nat} {n m : Int32} {M : Mem} {Q : Int32 → Mem → Prop} (hc : CV vk n m M) (hQ : wp_X7_speak d 103 (nI vk) (nI act) x op M Q) : wp_X7_own (d + 1) 103 (nI act) x op M Q := by
  rw [eO]
  unfold wb_X7_own
  refine ⟨by decide, ?_⟩
  rw [hc.1]
  exact hQ
theorem abv1 {d k act : Nat} {x op : Int32} {M : Mem} {Q : Int32 → Mem → Prop} (h1 : 1 ≤ k) (hk : k ≤ 6) (hQ : wp_X7_speak d 103 (nI (abvN k)) (nI act) x op M Q) : wp_X7_above (d + 1) 103 (nI k) (nI act) x op M Q := by
  rw [eA]
  unfold wb_X7_above b_X7_above_19
  refine ⟨by decide, ?_⟩
  rw [e_isWithin]
  refine b1t ((zin_nI (n := 6) (by decide)).mpr ⟨k, by omega, rfl⟩) ⟨vp_in_nI (by omega) (by decide), ?_⟩
  rw [nI_clamp (by omega), KA_all k hk, if_neg (by omega)]
  exact hQ
/-- what the kinds answer -/
def blV (n : Int32) (k : Nat) (x : Int32) : Int32 := if k = 1 ∨ k = 4 then (x + n) * 3 else x + n
def blT (k : Nat) : List Int32 := if k = 1 ∨ k = 4 then [20, 10] else [10]
def shV (n m : Int32) (k : Nat) (x : Int32) : Int32 := if k = 3 then -(x - m) else if k = 6 then (-(x - m)) ^^^ n else x - m
def shT (k : Nat) : List Int32 := if k = 3 then [40, 12] else if k = 6 then [70, 40, 12] else [12]
def w0V (n : Int32) (vk : Nat) (x : Int32) : Int32 := blV n vk x * 2
def w0T (vk : Nat) : List Int32 := 11 :: blT vk
def w2V (n m : Int32) (vk : Nat) (x : Int32) : Int32 := w0V n vk x - shV n m vk 1
def w2T (vk : Nat) : List Int32 := 30 :: (w0T vk ++ shT vk)
def waV (n m : Int32) (vk k : Nat) (x : Int32) : Int32 := if k = 2 then w2V n m vk x else if k = 5 then w2V n m vk (x + 1) else w0V n vk x
def waT (vk k : Nat) : List Int32 := if k = 2 then w2T vk else if k = 5 then 60 :: w2T vk else w0T vk
def t0V (n m : Int32) (vk : Nat) (x : Int32) : Int32 := waV n m vk vk x ^^^ shV n m vk x
def t0T (vk : Nat) : List Int32 := 13 :: (waT vk vk ++ shT vk)
def teV (n m : Int32) (vk k : Nat) (x : Int32) : Int32 := if k = 4 then t0V n m vk x - blV n vk 2 else if k = 6 then waV n m vk vk x - t0V n m vk x else t0V n m vk x
def teT (vk k : Nat) : List Int32 := if k = 4 then 50 :: (t0T vk ++ blT vk) else if k = 6 then 71 :: (waT vk vk ++ t0T vk) else t0T vk
theorem lens : ∀ vk, vk ≤ 6 → ((blT vk).length ≤ 2 ∧ (shT vk).length ≤ 3 ∧ (w0T vk).length ≤ 3 ∧ (w2T vk).length ≤ 7 ∧ (waT vk vk).length ≤ 8 ∧ (t0T vk).length ≤ 12) := by decide
theorem ap3 (l : List Int32) (a : Int32) (t : List Int32) : l ++ [a] ++ t = l ++ a :: t := by simp
theorem cBl {d op k vk : Nat} {n m x : Int32} {l : List Int32} {M : Mem} {Q : Int32 → Mem → Prop} (hk : k ≤ 6) (hc : CV vk n m M) (hT : TR M l) (hl : l.length ≤ 36) (hop : op ≤ 36) (hQ : ∀ M', TR M' (l ++ blT k) → only TV M M' → Q (blV n k x) M') : wp_X7_speak (d + 5) 103 (nI k) 0 x (nI op) M Q := by
  have b10 : ∀ (d op : Nat) (M1 : Mem) (Q : Int32 → Mem → Prop), CV vk n m M1 → Q (x + n) M1 → wp_X7_workOut (d + 1) 103 10 x (nI op) M1 Q := by
    intro d op M1 Q hc hq
    rw [eW]
    unfold wb_X7_workOut
    refine ⟨by decide, fun _ => (by rw [hc.2.1]; exact hq), fun z => absurd z (by decide), fun z => absurd z (by decide), fun z => absurd z (by decide), fun z => absurd z (by decide), fun z => absurd z (by decide), fun z => absurd z (by decide), fun z => absurd z (by decide), fun z => absurd z (by decide), fun z => absurd z (by decide), fun z => absurd z (by decide), fun z10 z11 z12 z13 z20 z30 z40 z50 z60 z70 z71 => absurd rfl z10⟩
  refine spk (act := 0) hk (by omega) (by omega) hT (by omega) (fun M1 t1 o1 => ?_)
  by_cases q : k = 1 ∨ k = 4
  · have e : bdZ k 0 = 20 := by unfold bdZ; rw [if_pos rfl, if_pos q]
    unfold blT blV at hQ
    rw [if_pos q, if_pos q] at hQ
    rw [e] at t1 ⊢
    rw [eW]
    unfold wb_X7_workOut
    refine ⟨by decide, fun z => absurd z (by decide), fun z => absurd z (by decide), fun z => absurd z (by decide), fun z => absurd z (by decide), fun _ => ?_, fun z => absurd z (by decide), fun z => absurd z (by decide), fun z => absurd z (by decide), fun z => absurd z (by decide), fun z => absurd z (by decide), fun z => absurd z (by decide), fun z10 z11 z12 z13 z20 z30 z40 z50 z60 z70 z71 => absurd rfl z20⟩
    refine abv1 (d := d + 2) (k := 1) (act := 0) (by omega) (by omega) (spk (act := 0) (k := 0) (by omega) (by omega) (by omega) t1 (by simp; omega) (fun M2 t2 o2 => ?_))
    refine b10 d _ M2 _ ((hc.kept o1).kept o2) (hQ M2 ?_ (o1.tr o2))
    rw [ap3] at t2
    exact t2
  · have e : bdZ k 0 = 10 := by unfold bdZ; rw [if_pos rfl, if_neg q]
    unfold blT blV at hQ
    rw [if_neg q, if_neg q] at hQ
    rw [e] at t1 ⊢
    exact b10 (d + 3) _ M1 _ (hc.kept o1) (hQ M1 t1 o1)
theorem cSh {d op k vk : Nat} {n m x : Int32} {l : List Int32} {M : Mem} {Q : Int32 → Mem → Prop} (hk : k ≤ 6) (hc : CV vk n m M) (hT : TR M l) (hl : l.length ≤ 36) (hop : op ≤ 36) (hQ : ∀ M', TR M' (l ++ shT k) → only TV M M' → Q (shV n m k x) M') : wp_X7_speak (d + 8) 103 (nI k) 2 x (nI op) M Q := by
  have b12 : ∀ (d op : Nat) (M1 : Mem) (Q : Int32 → Mem → Prop), CV vk n m M1 → Q (x - m) M1 → wp_X7_workOut (d + 1) 103 12 x (nI op) M1 Q := by
    intro d op M1 Q hc hq
    rw [eW]
    unfold wb_X7_workOut
    refine ⟨by decide, fun z => absurd z (by decide), fun z => absurd z (by decide), fun _ => (by rw [hc.2.2]; exact hq), fun z => absurd z (by decide), fun z => absurd z (by decide), fun z => absurd z (by decide), fun z => absurd z (by decide), fun z => absurd z (by decide), fun z => absurd z (by decide), fun z => absurd z (by decide), fun z => absurd z (by decide), fun z10 z11 z12 z13 z20 z30 z40 z50 z60 z70 z71 => absurd rfl z12⟩
  have b40 : ∀ (d op : Nat) (l : List Int32) (M1 : Mem) (Q : Int32 → Mem → Prop), CV vk n m M1 → TR M1 l → l.length ≤ 38 → op ≤ 38 → (∀ M', TR M' (l ++ [12]) → only TV M1 M' → Q (-(x - m)) M') → wp_X7_workOut (d + 4) 103 40 x (nI op) M1 Q := by
    intro d op l M1 Q hc ht hl hop hq
    rw [eW]
    unfold wb_X7_workOut
    refine ⟨by decide, fun z => absurd z (by decide), fun z => absurd z (by decide), fun z => absurd z (by decide), fun z => absurd z (by decide), fun z => absurd z (by decide), fun z => absurd z (by decide), fun _ => ?_, fun z => absurd z (by decide), fun z => absurd z (by decide), fun z => absurd z (by decide), fun z => absurd z (by decide), fun z10 z11 z12 z13 z20 z30 z40 z50 z60 z70 z71 => absurd rfl z40⟩
    refine abv1 (d := d + 2) (k := 3) (act := 2) (by omega) (by omega) (spk (act := 2) (k := 0) (by omega) (by omega) (by omega) ht (by omega) (fun M2 t2 o2 => ?_))
    exact b12 d _ M2 _ (hc.kept o2) (hq M2 t2 o2)
  refine spk (act := 2) hk (by omega) (by omega) hT (by omega) (fun M1 t1 o1 => ?_)
  unfold shT shV at hQ
  by_cases q3 : k = 3
  · have e : bdZ k 2 = 40 := by subst q3; rfl
    rw [if_pos q3, if_pos q3] at hQ
    rw [e] at t1 ⊢
    refine b40 (d + 3) _ _ M1 _ (hc.kept o1) t1 (by simp; omega) (by omega) (fun M2 t2 o2 => hQ M2 ?_ (o1.tr o2))
    rw [ap3] at t2
    exact t2
  · rw [if_neg q3, if_neg q3] at hQ
    by_cases q6 : k = 6
    · have e : bdZ k 2 = 70 := by subst q6; rfl
      rw [if_pos q6, if_pos q6] at hQ
      rw [e] at t1 ⊢
      rw [eW]
      unfold wb_X7_workOut
      refine ⟨by decide, fun z => absurd z (by decide), fun z => absurd z (by decide), fun z => absurd z (by decide), fun z => absurd z (by decide), fun z => absurd z (by decide), fun z => absurd z (by decide), fun z => absurd z (by decide), fun z => absurd z (by decide), fun z => absurd z (by decide), fun _ => ?_, fun z => absurd z (by decide), fun z10 z11 z12 z13 z20 z30 z40 z50 z60 z70 z71 => absurd rfl z70⟩
      refine abv1 (d := d + 5) (k := 6) (act := 2) (by omega) (by omega) (spk (act := 2) (k := 3) (by omega) (by omega) (by omega) t1 (by simp; omega) (fun M2 t2 o2 => ?_))
      refine b40 d _ _ M2 _ ((hc.kept o1).kept o2) t2 (by simp; omega) (by omega) (fun M3 t3 o3 => ?_)
      rw [(((hc.kept o1).kept o2).kept o3).2.1]
      refine hQ M3 ?_ ((o1.tr o2).tr o3)
      rw [ap3, ap3] at t3
      exact t3
    · have e : bdZ k 2 = 12 := by unfold bdZ; rw [if_neg (by decide), if_neg (by decide), if_pos rfl, if_neg q3, if_neg q6]
      rw [if_neg q6, if_neg q6] at hQ
      rw [e] at t1 ⊢
      exact b12 (d + 6) _ M1 _ (hc.kept o1) (hQ M1 t1 o1)
theorem cW0 {d op vk : Nat} {n m x : Int32} {l : List Int32} {M : Mem} {Q : Int32 → Mem → Prop} (hv : vk ≤ 6) (hc : CV vk n m M) (hT : TR M l) (hl : l.length ≤ 36) (hop : op ≤ 36) (hQ : ∀ M', TR M' (l ++ blT vk) → only TV M M' → Q (w0V n vk x) M') : wp_X7_workOut (d + 10) 103 11 x (nI op) M Q := by
  rw [eW]
  unfold wb_X7_workOut
  refine ⟨by decide, fun z => absurd z (by decide), fun _ => ?_, fun z => absurd z (by decide), fun z => absurd z (by decide), fun z => absurd z (by decide), fun z => absurd z (by decide), fun z => absurd z (by decide), fun z => absurd z (by decide), fun z => absurd z (by decide), fun z => absurd z (by decide), fun z => absurd z (by decide), fun z10 z11 z12 z13 z20 z30 z40 z50 z60 z70 z71 => absurd rfl z11⟩
  exact own1 (d := d + 8) (act := 0) hc (cBl (d := d + 3) hv hc hT hl hop (fun M1 t1 o1 => hQ M1 t1 o1))
theorem cW2 {d op vk : Nat} {n m x : Int32} {l : List Int32} {M : Mem} {Q : Int32 → Mem → Prop} (hv : vk ≤ 6) (hc : CV vk n m M) (hT : TR M l) (hl : l.length ≤ 30) (hop : op ≤ 33) (hQ : ∀ M', TR M' (l ++ (w0T vk ++ shT vk)) → only TV M M' → Q (w2V n m vk x) M') : wp_X7_workOut (d + 13) 103 30 x (nI op) M Q := by
  have L := lens vk hv
  rw [eW]
  unfold wb_X7_workOut
  refine ⟨by decide, fun z => absurd z (by decide), fun z => absurd z (by decide), fun z => absurd z (by decide), fun z => absurd z (by decide), fun z => absurd z (by decide), fun _ => ?_, fun z => absurd z (by decide), fun z => absurd z (by decide), fun z => absurd z (by decide), fun z => absurd z (by decide), fun z => absurd z (by decide), fun z10 z11 z12 z13 z20 z30 z40 z50 z60 z70 z71 => absurd rfl z30⟩
  refine abv1 (d := d + 11) (k := 2) (act := 1) (by omega) (by omega) (spk (act := 1) (k := 0) (by omega) (by omega) (by omega) hT (by omega) (fun M1 t1 o1 => ?_))
  refine cW0 (d := d) hv (hc.kept o1) t1 (by simp; omega) (by omega) (fun M2 t2 o2 => ?_)
  have t2 : TR M2 (l ++ w0T vk) := by rw [ap3] at t2; exact t2
  refine own1 (d := d + 11) (act := 2) ((hc.kept o1).kept o2) (cSh (d := d + 3) hv ((hc.kept o1).kept o2) t2 (by simp; omega) (by omega) (fun M3 t3 o3 => hQ M3 ?_ ((o1.tr o2).tr o3)))
  rw [List.append_assoc] at t3
  exact t3
theorem cWa {d op k vk : Nat} {n m x : Int32} {l : List Int32} {M : Mem} {Q : Int32 → Mem → Prop} (hk : k ≤ 6) (hv : vk ≤ 6) (hc : CV vk n m M) (hT : TR M l) (hl : l.length ≤ 28) (hop : op ≤ 30) (hQ : ∀ M', TR M' (l ++ waT vk k) → only TV M M' → Q (waV n m vk k x) M') : wp_X7_speak (d + 17) 103 (nI k) 1 x (nI op) M Q := by
  refine spk (act := 1) hk (by omega) (by omega) hT (by omega) (fun M1 t1 o1 => ?_)
  unfold waT waV at hQ
  by_cases q2 : k = 2
  · have e : bdZ k 1 = 30 := by subst q2; rfl
    rw [if_pos q2, if_pos q2] at hQ
    rw [e] at t1 ⊢
    refine cW2 (d := d + 3) hv (hc.kept o1) t1 (by simp; omega) (by omega) (fun M2 t2 o2 => hQ M2 ?_ (o1.tr o2))
    rw [ap3] at t2
    exact t2
  · rw [if_neg q2, if_neg q2] at hQ
    by_cases q5 : k = 5
    · have e : bdZ k 1 = 60 := by subst q5; rfl
      rw [if_pos q5, if_pos q5] at hQ
      rw [e] at t1 ⊢
      rw [eW]
      unfold wb_X7_workOut
      refine ⟨by decide, fun z => absurd z (by decide), fun z => absurd z (by decide), fun z => absurd z (by decide), fun z => absurd z (by decide), fun z => absurd z (by decide), fun z => absurd z (by decide), fun z => absurd z (by decide), fun z => absurd z (by decide), fun _ => ?_, fun z => absurd z (by decide), fun z => absurd z (by decide), fun z10 z11 z12 z13 z20 z30 z40 z50 z60 z70 z71 => absurd rfl z60⟩
      refine abv1 (d := d + 14) (k := 5) (act := 1) (by omega) (by omega) (spk (act := 1) (k := 2) (by omega) (by omega) (by omega) t1 (by simp; omega) (fun M2 t2 o2 => ?_))
      refine cW2 (d := d) hv ((hc.kept o1).kept o2) t2 (by simp; omega) (by omega) (fun M3 t3 o3 => hQ M3 ?_ ((o1.tr o2).tr o3))
      rw [ap3, ap3] at t3
      exact t3
    · have e : bdZ k 1 = 11 := by unfold bdZ; rw [if_neg (by decide), if_pos rfl, if_neg q2, if_neg q5]
      rw [if_neg q5, if_neg q5] at hQ
      rw [e] at t1 ⊢
      refine cW0 (d := d + 6) hv (hc.kept o1) t1 (by simp; omega) (by omega) (fun M2 t2 o2 => hQ M2 ?_ (o1.tr o2))
      rw [ap3] at t2
      exact t2
theorem cT0 {d op vk : Nat} {n m x : Int32} {l : List Int32} {M : Mem} {Q : Int32 → Mem → Prop} (hv : vk ≤ 6) (hc : CV vk n m M) (hT : TR M l) (hl : l.length ≤ 24) (hop : op ≤ 28) (hQ : ∀ M', TR M' (l ++ (waT vk vk ++ shT vk)) → only TV M M' → Q (t0V n m vk x) M') : wp_X7_workOut (d + 19) 103 13 x (nI op) M Q := by
  have L := lens vk hv
  rw [eW]
  unfold wb_X7_workOut
  refine ⟨by decide, fun z => absurd z (by decide), fun z => absurd z (by decide), fun z => absurd z (by decide), fun _ => ?_, fun z => absurd z (by decide), fun z => absurd z (by decide), fun z => absurd z (by decide), fun z => absurd z (by decide), fun z => absurd z (by decide), fun z => absurd z (by decide), fun z => absurd z (by decide), fun z10 z11 z12 z13 z20 z30 z40 z50 z60 z70 z71 => absurd rfl z13⟩
  refine own1 (d := d + 17) (act := 1) hc (cWa (d := d) hv hv hc hT (by omega) (by omega) (fun M1 t1 o1 => ?_))
  refine own1 (d := d + 17) (act := 2) (hc.kept o1) (cSh (d := d + 9) hv (hc.kept o1) t1 (by simp; omega) (by omega) (fun M2 t2 o2 => hQ M2 ?_ (o1.tr o2)))
  rw [List.append_assoc] at t2
  exact t2
theorem cTe {d op k vk : Nat} {n m x : Int32} {l : List Int32} {M : Mem} {Q : Int32 → Mem → Prop} (hk : k ≤ 6) (hv : vk ≤ 6) (hc : CV vk n m M) (hT : TR M l) (hl : l.length ≤ 10) (hop : op ≤ 20) (hQ : ∀ M', TR M' (l ++ teT vk k) → only TV M M' → Q (teV n m vk k x) M') : wp_X7_speak (d + 23) 103 (nI k) 3 x (nI op) M Q := by
  have L := lens vk hv
  refine spk (act := 3) hk (by omega) (by omega) hT (by omega) (fun M1 t1 o1 => ?_)
  unfold teT teV at hQ
  by_cases q4 : k = 4
  · have e : bdZ k 3 = 50 := by subst q4; rfl
    rw [if_pos q4, if_pos q4] at hQ
    rw [e] at t1 ⊢
    rw [eW]
    unfold wb_X7_workOut
    refine ⟨by decide, fun z => absurd z (by decide), fun z => absurd z (by decide), fun z => absurd z (by decide), fun z => absurd z (by decide), fun z => absurd z (by decide), fun z => absurd z (by decide), fun z => absurd z (by decide), fun _ => ?_, fun z => absurd z (by decide), fun z => absurd z (by decide), fun z => absurd z (by decide), fun z10 z11 z12 z13 z20 z30 z40 z50 z60 z70 z71 => absurd rfl z50⟩
    refine abv1 (d := d + 20) (k := 4) (act := 3) (by omega) (by omega) (spk (act := 3) (k := 1) (by omega) (by omega) (by omega) t1 (by simp; omega) (fun M2 t2 o2 => ?_))
    refine cT0 (d := d) hv ((hc.kept o1).kept o2) t2 (by simp; omega) (by omega) (fun M3 t3 o3 => ?_)
    have t3 : TR M3 (l ++ [50] ++ t0T vk) := by rw [ap3] at t3; exact t3
    refine own1 (d := d + 20) (act := 0) (((hc.kept o1).kept o2).kept o3) (cBl (d := d + 15) hv (((hc.kept o1).kept o2).kept o3) t3 (by simp; omega) (by omega) (fun M4 t4 o4 => hQ M4 ?_ (((o1.tr o2).tr o3).tr o4)))
    rw [List.append_assoc, ap3] at t4
    exact t4
  · rw [if_neg q4, if_neg q4] at hQ
    by_cases q6 : k = 6
    · have e : bdZ k 3 = 71 := by subst q6; rfl
      rw [if_pos q6, if_pos q6] at hQ
      rw [e] at t1 ⊢
      rw [eW]
      unfold wb_X7_workOut
      refine ⟨by decide, fun z => absurd z (by decide), fun z => absurd z (by decide), fun z => absurd z (by decide), fun z => absurd z (by decide), fun z => absurd z (by decide), fun z => absurd z (by decide), fun z => absurd z (by decide), fun z => absurd z (by decide), fun z => absurd z (by decide), fun z => absurd z (by decide), fun _ => ?_, fun z10 z11 z12 z13 z20 z30 z40 z50 z60 z70 z71 => absurd rfl z71⟩
      refine own1 (d := d + 20) (act := 1) (hc.kept o1) (cWa (d := d + 3) hv hv (hc.kept o1) t1 (by simp; omega) (by omega) (fun M2 t2 o2 => ?_))
      refine abv1 (d := d + 20) (k := 6) (act := 3) (by omega) (by omega) (spk (act := 3) (k := 3) (by omega) (by omega) (by omega) t2 (by simp; omega) (fun M3 t3 o3 => ?_))
      refine cT0 (d := d) hv (((hc.kept o1).kept o2).kept o3) t3 (by simp; omega) (by omega) (fun M4 t4 o4 => hQ M4 ?_ (((o1.tr o2).tr o3).tr o4))
      rw [ap3, List.append_assoc, ap3] at t4
      exact t4
    · have e : bdZ k 3 = 13 := by unfold bdZ; rw [if_neg (by decide), if_neg (by decide), if_neg (by decide), if_neg q4, if_neg q6]
      rw [if_neg q6, if_neg q6] at hQ
      rw [e] at t1 ⊢
      refine cT0 (d := d + 3) hv (hc.kept o1) t1 (by simp; omega) (by omega) (fun M2 t2 o2 => hQ M2 ?_ (o1.tr o2))
      rw [ap3] at t2
      exact t2
