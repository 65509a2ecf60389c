def B2 (xs : Nat → Int32) (L : Nat) (J : Mem → Prop) (v3 : Int32) (M : Mem) : Prop :=
  (((xs v3.toNatClampNeg) &&& 63) = 0 → wp_X9_snow 0 (xs (v3 + 1).toNatClampNeg) (xs (v3 + 2).toNatClampNeg) M (fun r M1 => wp_X10_snow 120 (xs (v3 + 1).toNatClampNeg) (xs (v3 + 2).toNatClampNeg) M1 (fun r2 M2 => r = r2 ∧ J M2))) ∧ (((xs v3.toNatClampNeg) &&& 63) = 1 → wp_X9_ofCell 0 (xs (v3 + 1).toNatClampNeg) (xs (v3 + 2).toNatClampNeg) M (fun r M1 => wp_X10_ofCell 120 (xs (v3 + 1).toNatClampNeg) (xs (v3 + 2).toNatClampNeg) M1 (fun r2 M2 => r = r2 ∧ J M2))) ∧ (((xs v3.toNatClampNeg) &&& 63) = 2 → wp_X9_seeker 0 (xs (v3 + 1).toNatClampNeg) (xs (v3 + 2).toNatClampNeg) M (fun r M1 => wp_X10_seeker 120 (xs (v3 + 1).toNatClampNeg) (xs (v3 + 2).toNatClampNeg) M1 (fun r2 M2 => r = r2 ∧ J M2))) ∧ (((xs v3.toNatClampNeg) &&& 63) = 3 → wp_X9_ofSeeker 0 (xs (v3 + 1).toNatClampNeg) (xs (v3 + 2).toNatClampNeg) M (fun r M1 => wp_X10_ofSeeker 120 (xs (v3 + 1).toNatClampNeg) (xs (v3 + 2).toNatClampNeg) M1 (fun r2 M2 => r = r2 ∧ J M2))) ∧ (((xs v3.toNatClampNeg) &&& 63) = 4 → wp_X9_send 0 (xs (v3 + 1).toNatClampNeg) (xs (v3 + 2).toNatClampNeg) (xs (v3 + 3).toNatClampNeg) M (fun r M1 => wp_X10_send 120 (xs (v3 + 1).toNatClampNeg) (xs (v3 + 2).toNatClampNeg) (xs (v3 + 3).toNatClampNeg) M1 (fun r2 M2 => r = r2 ∧ J M2))) ∧ (((xs v3.toNatClampNeg) &&& 63) = 5 → wp_X9_sheep 0 (xs (v3 + 1).toNatClampNeg) (xs (v3 + 2).toNatClampNeg) (xs (v3 + 3).toNatClampNeg) (xs (v3 + 4).toNatClampNeg) M (fun r M1 => wp_X10_sheep 120 (xs (v3 + 1).toNatClampNeg) (xs (v3 + 2).toNatClampNeg) (xs (v3 + 3).toNatClampNeg) (xs (v3 + 4).toNatClampNeg) M1 (fun r2 M2 => r = r2 ∧ J M2))) ∧ (((xs v3.toNatClampNeg) &&& 63) = 6 → wp_X9_ofSheep 0 (xs (v3 + 1).toNatClampNeg) (xs (v3 + 2).toNatClampNeg) M (fun r M1 => wp_X10_ofSheep 120 (xs (v3 + 1).toNatClampNeg) (xs (v3 + 2).toNatClampNeg) M1 (fun r2 M2 => r = r2 ∧ J M2))) ∧ (((xs v3.toNatClampNeg) &&& 63) = 7 → wp_X9_change 0 (xs (v3 + 1).toNatClampNeg) (xs (v3 + 2).toNatClampNeg) (xs (v3 + 3).toNatClampNeg) M (fun r M1 => wp_X10_change 120 (xs (v3 + 1).toNatClampNeg) (xs (v3 + 2).toNatClampNeg) (xs (v3 + 3).toNatClampNeg) M1 (fun r2 M2 => r = r2 ∧ J M2))) ∧ (((xs v3.toNatClampNeg) &&& 63) = 8 → wp_X9_become 0 (xs (v3 + 1).toNatClampNeg) (xs (v3 + 2).toNatClampNeg) M (fun r M1 => wp_X10_become 120 (xs (v3 + 1).toNatClampNeg) (xs (v3 + 2).toNatClampNeg) M1 (fun r2 M2 => r = r2 ∧ J M2))) ∧ (((xs v3.toNatClampNeg) &&& 63) = 9 → wp_X9_as 0 (xs (v3 + 1).toNatClampNeg) (xs (v3 + 2).toNatClampNeg) M (fun r M1 => wp_X10_as 120 (xs (v3 + 1).toNatClampNeg) (xs (v3 + 2).toNatClampNeg) M1 (fun r2 M2 => r = r2 ∧ J M2))) ∧ (((xs v3.toNatClampNeg) &&& 63) = 10 → wp_X9_feed 0 ((lsl' ((xs (v3 + 1).toNatClampNeg).toInt64) 32) ||| (((xs (v3 + 2).toNatClampNeg).toInt64) &&& 4294967295)) (xs (v3 + 3).toNatClampNeg) M (fun r M1 => wp_X10_feed 120 ((lsl' ((xs (v3 + 1).toNatClampNeg).toInt64) 32) ||| (((xs (v3 + 2).toNatClampNeg).toInt64) &&& 4294967295)) (xs (v3 + 3).toNatClampNeg) M1 (fun r2 M2 => r = r2 ∧ J M2))) ∧ (((xs v3.toNatClampNeg) &&& 63) = 11 → wp_X9_text 0 (xs (v3 + 1).toNatClampNeg) M (fun r M1 => wp_X10_text 120 (xs (v3 + 1).toNatClampNeg) M1 (fun r2 M2 => r = r2 ∧ J M2))) ∧ (((xs v3.toNatClampNeg) &&& 63) = 12 → wp_X9_law 0 (xs (v3 + 1).toNatClampNeg) (xs (v3 + 2).toNatClampNeg) (xs (v3 + 3).toNatClampNeg) (xs (v3 + 4).toNatClampNeg) M (fun r M1 => wp_X10_law 120 (xs (v3 + 1).toNatClampNeg) (xs (v3 + 2).toNatClampNeg) (xs (v3 + 3).toNatClampNeg) (xs (v3 + 4).toNatClampNeg) M1 (fun r2 M2 => r = r2 ∧ J M2))) ∧ (((xs v3.toNatClampNeg) &&& 63) = 13 → wp_X9_hours 0 (xs (v3 + 1).toNatClampNeg) M (fun r M1 => wp_X10_hours 120 (xs (v3 + 1).toNatClampNeg) M1 (fun r2 M2 => r = r2 ∧ J M2))) ∧ (((xs v3.toNatClampNeg) &&& 63) = 14 → wp_X9_loose 0 (xs (v3 + 1).toNatClampNeg) M (fun r M1 => wp_X10_loose 120 (xs (v3 + 1).toNatClampNeg) M1 (fun r2 M2 => r = r2 ∧ J M2))) ∧ (((xs v3.toNatClampNeg) &&& 63) = 15 → wp_X9_then 0 (xs (v3 + 1).toNatClampNeg) (xs (v3 + 2).toNatClampNeg) (xs (v3 + 3).toNatClampNeg) M (fun r M1 => wp_X10_then 120 (xs (v3 + 1).toNatClampNeg) (xs (v3 + 2).toNatClampNeg) (xs (v3 + 3).toNatClampNeg) M1 (fun r2 M2 => r = r2 ∧ J M2))) ∧ (((xs v3.toNatClampNeg) &&& 63) = 16 → wp_X9_when 0 (xs (v3 + 1).toNatClampNeg) M (fun r M1 => wp_X10_when 120 (xs (v3 + 1).toNatClampNeg) M1 (fun r2 M2 => r = r2 ∧ J M2))) ∧ (((xs v3.toNatClampNeg) &&& 63) = 17 → wp_X9_saved 0 M (fun r M1 => wp_X10_saved 120 M1 (fun r2 M2 => r = r2 ∧ J M2))) ∧ (((xs v3.toNatClampNeg) &&& 63) = 18 → wp_X9_add 0 (xs (v3 + 1).toNatClampNeg) (xs (v3 + 2).toNatClampNeg) M (fun r M1 => wp_X10_add 120 (xs (v3 + 1).toNatClampNeg) (xs (v3 + 2).toNatClampNeg) M1 (fun r2 M2 => r = r2 ∧ J M2))) ∧ (((xs v3.toNatClampNeg) &&& 63) = 19 → wp_X9_start 0 (xs (v3 + 1).toNatClampNeg) (xs (v3 + 2).toNatClampNeg) (xs (v3 + 3).toNatClampNeg) M (fun r M1 => wp_X10_start 120 (xs (v3 + 1).toNatClampNeg) (xs (v3 + 2).toNatClampNeg) (xs (v3 + 3).toNatClampNeg) M1 (fun r2 M2 => r = r2 ∧ J M2))) ∧ (((xs v3.toNatClampNeg) &&& 63) = 20 → wp_X9_missed 0 (xs (v3 + 1).toNatClampNeg) (xs (v3 + 2).toNatClampNeg) M (fun r M1 => wp_X10_missed 120 (xs (v3 + 1).toNatClampNeg) (xs (v3 + 2).toNatClampNeg) M1 (fun r2 M2 => r = r2 ∧ J M2))) ∧ (((xs v3.toNatClampNeg) &&& 63) = 21 → wp_X9_nobody 0 M (fun r M1 => wp_X10_nobody 120 M1 (fun r2 M2 => r = r2 ∧ J M2))) ∧ (((xs v3.toNatClampNeg) &&& 63) = 22 → wp_X9_lies 0 (xs (v3 + 1).toNatClampNeg) (xs (v3 + 2).toNatClampNeg) (xs (v3 + 3).toNatClampNeg) M (fun r M1 => wp_X10_lies 120 (xs (v3 + 1).toNatClampNeg) (xs (v3 + 2).toNatClampNeg) (xs (v3 + 3).toNatClampNeg) M1 (fun r2 M2 => r = r2 ∧ J M2))) ∧ (((xs v3.toNatClampNeg) &&& 63) = 23 → wp_X9_order 0 (xs (v3 + 1).toNatClampNeg) M (fun r M1 => wp_X10_order 120 (xs (v3 + 1).toNatClampNeg) M1 (fun r2 M2 => r = r2 ∧ J M2))) ∧ (((xs v3.toNatClampNeg) &&& 63) = 24 → wp_X9_strong 0 (xs (v3 + 1).toNatClampNeg) (xs (v3 + 2).toNatClampNeg) (xs (v3 + 3).toNatClampNeg) M (fun r M1 => wp_X10_strong 120 (xs (v3 + 1).toNatClampNeg) (xs (v3 + 2).toNatClampNeg) (xs (v3 + 3).toNatClampNeg) M1 (fun r2 M2 => r = r2 ∧ J M2))) ∧ (((xs v3.toNatClampNeg) &&& 63) = 25 → wp_X9_odds 0 (xs (v3 + 1).toNatClampNeg) (xs (v3 + 2).toNatClampNeg) (xs (v3 + 3).toNatClampNeg) M (fun r M1 => wp_X10_odds 120 (xs (v3 + 1).toNatClampNeg) (xs (v3 + 2).toNatClampNeg) (xs (v3 + 3).toNatClampNeg) M1 (fun r2 M2 => r = r2 ∧ J M2))) ∧ (((xs v3.toNatClampNeg) &&& 63) = 26 → wp_X9_seed 0 (xs (v3 + 1).toNatClampNeg) M (fun r M1 => wp_X10_seed 120 (xs (v3 + 1).toNatClampNeg) M1 (fun r2 M2 => r = r2 ∧ J M2))) ∧ (((xs v3.toNatClampNeg) &&& 63) = 27 → wp_X9_voice 0 (xs (v3 + 1).toNatClampNeg) (xs (v3 + 2).toNatClampNeg) (xs (v3 + 3).toNatClampNeg) M (fun r M1 => wp_X10_voice 120 (xs (v3 + 1).toNatClampNeg) (xs (v3 + 2).toNatClampNeg) (xs (v3 + 3).toNatClampNeg) M1 (fun r2 M2 => r = r2 ∧ J M2))) ∧ (((xs v3.toNatClampNeg) &&& 63) = 28 → wp_X9_trace 0 (xs (v3 + 1).toNatClampNeg) M (fun r M1 => wp_X10_trace 120 (xs (v3 + 1).toNatClampNeg) M1 (fun r2 M2 => r = r2 ∧ J M2))) ∧ (((xs v3.toNatClampNeg) &&& 63) = 29 → wp_X9_sheet 0 (xs (v3 + 1).toNatClampNeg) (xs (v3 + 2).toNatClampNeg) (xs (v3 + 3).toNatClampNeg) M (fun r M1 => wp_X10_sheet 120 (xs (v3 + 1).toNatClampNeg) (xs (v3 + 2).toNatClampNeg) (xs (v3 + 3).toNatClampNeg) M1 (fun r2 M2 => r = r2 ∧ J M2))) ∧ (((xs v3.toNatClampNeg) &&& 63) = 30 → wp_X9_put 0 (xs (v3 + 1).toNatClampNeg) (xs (v3 + 2).toNatClampNeg) (xs (v3 + 3).toNatClampNeg) M (fun r M1 => wp_X10_put 120 (xs (v3 + 1).toNatClampNeg) (xs (v3 + 2).toNatClampNeg) (xs (v3 + 3).toNatClampNeg) M1 (fun r2 M2 => r = r2 ∧ J M2))) ∧ (((xs v3.toNatClampNeg) &&& 63) = 31 → wp_X9_move 0 (xs (v3 + 1).toNatClampNeg) (xs (v3 + 2).toNatClampNeg) (xs (v3 + 3).toNatClampNeg) (xs (v3 + 4).toNatClampNeg) (xs (v3 + 5).toNatClampNeg) M (fun r M1 => wp_X10_move 120 (xs (v3 + 1).toNatClampNeg) (xs (v3 + 2).toNatClampNeg) (xs (v3 + 3).toNatClampNeg) (xs (v3 + 4).toNatClampNeg) (xs (v3 + 5).toNatClampNeg) M1 (fun r2 M2 => r = r2 ∧ J M2))) ∧ (((xs v3.toNatClampNeg) &&& 63) = 32 → wp_X9_snows 0 (xs (v3 + 1).toNatClampNeg) M (fun r M1 => wp_X10_snows 120 (xs (v3 + 1).toNatClampNeg) M1 (fun r2 M2 => r = r2 ∧ J M2))) ∧ (((xs v3.toNatClampNeg) &&& 63) = 33 → wp_X9_judge 0 (xs (v3 + 1).toNatClampNeg) M (fun r M1 => wp_X10_judge 120 (xs (v3 + 1).toNatClampNeg) M1 (fun r2 M2 => r = r2 ∧ J M2))) ∧ (((xs v3.toNatClampNeg) &&& 63) = 34 → wp_X9_image 0 M (fun r M1 => wp_X10_image 120 M1 (fun r2 M2 => r = r2 ∧ J M2))) ∧ (((xs v3.toNatClampNeg) &&& 63) = 35 → wp_X9_restore 0 M (fun r M1 => wp_X10_restore 120 M1 (fun r2 M2 => r = r2 ∧ J M2))) ∧ (((xs v3.toNatClampNeg) &&& 63) = 36 → wp_X9_tell 0 (xs (v3 + 1).toNatClampNeg) M (fun r M1 => wp_X10_tell 120 (xs (v3 + 1).toNatClampNeg) M1 (fun r2 M2 => r = r2 ∧ J M2))) ∧ (((xs v3.toNatClampNeg) &&& 63) = 37 → wp_X9_check 0 M (fun r M1 => wp_X10_check 120 M1 (fun r2 M2 => r = r2 ∧ J M2))) ∧ (((xs v3.toNatClampNeg) &&& 63) = 38 → wp_X9_count 0 (xs (v3 + 1).toNatClampNeg) M (fun r M1 => wp_X10_count 120 (xs (v3 + 1).toNatClampNeg) M1 (fun r2 M2 => r = r2 ∧ J M2))) ∧ (((xs v3.toNatClampNeg) &&& 63) = 39 → wp_X9_told 0 (xs (v3 + 1).toNatClampNeg) M (fun r M1 => wp_X10_told 120 (xs (v3 + 1).toNatClampNeg) M1 (fun r2 M2 => r = r2 ∧ J M2))) ∧ (¬ ((xs v3.toNatClampNeg) &&& 63) = 0 → ¬ ((xs v3.toNatClampNeg) &&& 63) = 1 → ¬ ((xs v3.toNatClampNeg) &&& 63) = 2 → ¬ ((xs v3.toNatClampNeg) &&& 63) = 3 → ¬ ((xs v3.toNatClampNeg) &&& 63) = 4 → ¬ ((xs v3.toNatClampNeg) &&& 63) = 5 → ¬ ((xs v3.toNatClampNeg) &&& 63) = 6 → ¬ ((xs v3.toNatClampNeg) &&& 63) = 7 → ¬ ((xs v3.toNatClampNeg) &&& 63) = 8 → ¬ ((xs v3.toNatClampNeg) &&& 63) = 9 → ¬ ((xs v3.toNatClampNeg) &&& 63) = 10 → ¬ ((xs v3.toNatClampNeg) &&& 63) = 11 → ¬ ((xs v3.toNatClampNeg) &&& 63) = 12 → ¬ ((xs v3.toNatClampNeg) &&& 63) = 13 → ¬ ((xs v3.toNatClampNeg) &&& 63) = 14 → ¬ ((xs v3.toNatClampNeg) &&& 63) = 15 → ¬ ((xs v3.toNatClampNeg) &&& 63) = 16 → ¬ ((xs v3.toNatClampNeg) &&& 63) = 17 → ¬ ((xs v3.toNatClampNeg) &&& 63) = 18 → ¬ ((xs v3.toNatClampNeg) &&& 63) = 19 → ¬ ((xs v3.toNatClampNeg) &&& 63) = 20 → ¬ ((xs v3.toNatClampNeg) &&& 63) = 21 → ¬ ((xs v3.toNatClampNeg) &&& 63) = 22 → ¬ ((xs v3.toNatClampNeg) &&& 63) = 23 → ¬ ((xs v3.toNatClampNeg) &&& 63) = 24 → ¬ ((xs v3.toNatClampNeg) &&& 63) = 25 → ¬ ((xs v3.toNatClampNeg) &&& 63) = 26 → ¬ ((xs v3.toNatClampNeg) &&& 63) = 27 → ¬ ((xs v3.toNatClampNeg) &&& 63) = 28 → ¬ ((xs v3.toNatClampNeg) &&& 63) = 29 → ¬ ((xs v3.toNatClampNeg) &&& 63) = 30 → ¬ ((xs v3.toNatClampNeg) &&& 63) = 31 → ¬ ((xs v3.toNatClampNeg) &&& 63) = 32 → ¬ ((xs v3.toNatClampNeg) &&& 63) = 33 → ¬ ((xs v3.toNatClampNeg) &&& 63) = 34 → ¬ ((xs v3.toNatClampNeg) &&& 63) = 35 → ¬ ((xs v3.toNatClampNeg) &&& 63) = 36 → ¬ ((xs v3.toNatClampNeg) &&& 63) = 37 → ¬ ((xs v3.toNatClampNeg) &&& 63) = 38 → ¬ ((xs v3.toNatClampNeg) &&& 63) = 39 → J M)
theorem all_calls {n : Nat} {M : Mem} (hn : n < 2 ^ 20) (h : INV n M) (xs : Nat → Int32) (L : Nat) (v3 : Int32) : B2 xs L (INV (n + 1)) v3 M := by
  unfold B2
  exact ⟨fun _ => call_snow h _ _, fun _ => call_ofCell h _ _, fun _ => call_seeker h _ _, fun _ => call_ofSeeker h _ _, fun _ => call_send h _ _ _, fun _ => call_sheep h _ _ _ _, fun _ => call_ofSheep h _ _, fun _ => call_change h _ _ _, fun _ => call_become h _ _, fun _ => call_as h _ _, fun _ => call_feed h _ _, fun _ => call_text h _, fun _ => call_law h _ _ _ _, fun _ => call_hours h _, fun _ => call_loose h _, fun _ => call_then h _ _ _, fun _ => call_when h _, fun _ => call_saved h, fun _ => call_add h _ _, fun _ => call_start h _ _ _, fun _ => call_missed h _ _, fun _ => call_nobody h, fun _ => call_lies h _ _ _, fun _ => call_order h _, fun _ => call_strong h _ _ _, fun _ => call_odds h _ _ _, fun _ => call_seed h _, fun _ => call_voice h _ _ _, fun _ => call_trace h _, fun _ => call_sheet h _ _ _, fun _ => call_put h _ _ _, fun _ => call_move h _ _ _ _ _, fun _ => call_snows h _, fun _ => call_judge h _, fun _ => call_image hn h, fun _ => call_restore hn h, fun _ => call_tell h _, fun _ => call_check h, fun _ => call_count h _, fun _ => call_told h _, fun _ _ _ _ _ _ _ _ _ _ _ _ _ _ _ _ _ _ _ _ _ _ _ _ _ _ _ _ _ _ _ _ _ _ _ _ _ _ _ _ => h.pure⟩
theorem law_sub {L : Nat} (hL : L ≤ 3072) : (nI L - 6).toInt = L - 6 := by
  have := pk_sub_toInt (a := L) (b := 6) (by omega) (by omega)
  exact this
theorem law_in {L i : Nat} {v3 : Int32} (hL : L ≤ 3072) (hi : i ≤ 3078) (e : v3 = nI i) (c : ¬ (nI L - 6) < v3) : i + 6 ≤ L ∧ vp_in v3 L ∧ vp_in (v3 + 1) L ∧ vp_in (v3 + 2) L ∧ vp_in (v3 + 3) L ∧ vp_in (v3 + 4) L ∧ vp_in (v3 + 5) L := by
  subst e
  rw [i_lt, law_sub hL, nI_toInt (by omega)] at c
  have h : i + 6 ≤ L := by omega
  have g : ∀ k, k ≤ 5 → vp_in (nI i + nI k) L := fun k hk => by rw [nI_add]; exact vp_in_nI (by omega) (by omega)
  exact ⟨h, vp_in_nI (by omega) (by omega), g 1 (by omega), g 2 (by omega), g 3 (by omega), g 4 (by omega), g 5 (by omega)⟩
theorem law_end {L i : Nat} {v3 : Int32} (hL : L ≤ 3072) (hi : i ≤ 3078) (e : v3 = nI i) (h : L < i + 6) : (nI L - 6) < v3 := by
  subst e
  rw [i_lt, law_sub hL, nI_toInt (by omega)]
  omega
set_option maxHeartbeats 40000000 in
set_option maxRecDepth 100000 in
theorem law_run {p : Program} {l : Launch} {e : Env} {s : State} {m : MethodId} {below : List Frame} {meth : Method} {c : Code} {G : Gm} {b L : Nat} {xs : Nat → Int32} {cells slots : Nat} (C0 : lw_At p s m meth c b L xs) (hSt : Stt G s) (hTb : Tbs G s s.heap) (hin_ : ∀ q : Loc, inW G q.base → s.heap.size ≤ q.base) (hbA : ¬ inW G b) (hc1 : cells ≤ 600000) (hc2 : slots ≤ 7302250) (hL : L ≤ 3072) :
    ∀ (n18 i n : Nat) (v3 : Int32) (M : Mem) (H : Heap) (locs : List Loc) (ls : Array Slot), L < i + 6 * n18 + 6 → v3 = nI i → 6 * n = i → i ≤ 3078 → INV n M → va_P G.2.1 clsA (wl G M) H → va_S (inW G) s.heap H locs → lv_has ls 4 [(0, .ref b), (1, .ref (G.1 + 0)), (2, .ref (G.1 + 120)), (3, .int v3)] → W p l e room_1 s m #[Value.ref b] below meth c H locs cells slots (lw_Z below #[Value.ref b] s) (F0 m 18 ls []) := by
  obtain ⟨hx, hb, hr, hml, hown, hts0, hX, hbl, hlocks, hgv⟩ := C0
  have ht : ∀ w ∈ lwg, w.before #[Value.ref b] s = true := fun w h => hts0 w (List.mem_filter.mp h).1
  have hts : ∀ w ∈ ((.initialized R_law : Cond) :: lwg), w.before #[Value.ref b] s = true := fun w h => by
    rcases List.mem_cons.mp h with rfl | q
    · exact ht _ wn_R_law
    · exact ht w q
  have k0_ : kdT 0 = 9 := by decide
  have k120_ : kdT 120 = 10 := by decide
  have ex : ∀ (v3 : Int32) (M : Mem) (H : Heap) (locs : List Loc) (ls : Array Slot), va_P G.2.1 clsA (wl G M) H → va_S (inW G) s.heap H locs → W p l e room_1 s m #[Value.ref b] below meth c H locs cells slots (lw_Z below #[Value.ref b] s) (F0 m 1514 ls []) := by
    intro v3 M H locs ls hP hS
    refine lv_iconst (v := 1) hx hb dL_law_1514 (by decide) ?_
    refine va_forget (fun q hq => hin_ q (hS.2.2 q hq)) ?_
    refine W.widen (k := 600000) (n := 7302250) hc1 hc2 ?_
    exact lw_ret hx hb hr hlocks dL_law_1515
  intro n18
  induction n18 with
  | zero =>
    intro i n v3 M H locs ls hk ev hn6 hi6 hI hP hS hl
    refine lv_iload_n hx hb dL_law_18 rfl (lv_at hl 3 rfl) ?_
    refine lv_aload_n hx hb dL_law_19 rfl (lv_at hl 0 rfl) ?_
    refine va_slen hx hb hX hbl hbA hS dL_law_20 ?_
    refine lv_bipush (v := 6) hx hb dL_law_21 (by decide) ?_
    refine lv_isub hx hb dL_law_23 ?_
    exact lv_icmp_gt (tgt := 1514) hx hb dL_law_24 (by decide) (fun _ => ex v3 M _ _ _ hP hS) (fun c_2 => absurd (law_end hL hi6 ev (by omega)) c_2)
  | succ n18 ih18 =>
    intro i n v3 M H locs ls hk ev hn6 hi6 hI hP hS hl
    have hw : B2 xs L (INV (n + 1)) v3 M := all_calls (by omega) hI xs L v3
    refine lv_iload_n hx hb dL_law_18 rfl (lv_at hl 3 rfl) ?_
    refine lv_aload_n hx hb dL_law_19 rfl (lv_at hl 0 rfl) ?_
    refine va_slen hx hb hX hbl hbA hS dL_law_20 ?_
    refine lv_bipush (v := 6) hx hb dL_law_21 (by decide) ?_
    refine lv_isub hx hb dL_law_23 ?_
    refine lv_icmp_gt (tgt := 1514) hx hb dL_law_24 (by decide) (fun _ => ex v3 M _ _ _ hP hS) (fun c_2 => ?_)
    obtain ⟨hle, hv0, hv1, hv2, hv3, hv4, hv5⟩ := law_in hL hi6 ev c_2
    have J_1508 : ∀ (v3' : Int32) (M : Mem) (H : Heap) (locs : List Loc) (ls : Array Slot), v3' = v3 → INV (n + 1) M → va_P G.2.1 clsA (wl G M) H → va_S (inW G) s.heap H locs → lv_has ls 4 [(0, .ref b), (1, .ref (G.1 + 0)), (2, .ref (G.1 + 120)), (3, .int v3)] → W p l e room_1 s m #[Value.ref b] below meth c H locs cells slots (lw_Z below #[Value.ref b] s) (F0 m 1508 ls []) := by
      intro v3' M H locs ls _ hw hP hS hl
      obtain ⟨x_1, ex_1⟩ : ∃ z : Int32, z = v3 + 6 := ⟨_, rfl⟩
      refine lv_iinc (v := x_1) (lv' := [(3, .int x_1), (0, .ref b), (1, .ref (G.1 + 0)), (2, .ref (G.1 + 120))]) hx hb dL_law_1508 hl (k := 3) rfl (by rw [ex_1]; rfl) (by decide) rfl (fun ls hl => ?_)
      refine lv_goto (tgt := 18) hx hb dL_law_1511 (by decide) ?_
      exact ih18 (i + 6) (n + 1) x_1 M _ _ _ (by omega) (by rw [ex_1, ev, show (6 : Int32) = nI 6 from rfl, nI_add]) (by omega) (by omega) hw hP hS (lv_sub hl [1, 2, 3, 0] rfl)
    refine lv_aload_n hx hb dL_law_27 rfl (lv_at hl 0 rfl) ?_
    refine lv_iload_n hx hb dL_law_28 rfl (lv_at hl 3 rfl) ?_
    refine va_sld hx hb hX hbl hbA hS hv0 dL_law_29 ?_
    refine lv_bipush (v := 63) hx hb dL_law_30 (by decide) ?_
    refine lv_iand hx hb dL_law_32 ?_
    by_cases c_4 : ((xs v3.toNatClampNeg) &&& 63) = 0
    · have hw := hw.1 c_4
      refine mw_tcase (tgt := 208) (off := 175) hx hb dL_law_33 c_4 (by decide) ?_
      refine lv_aload_n hx hb dL_law_208 rfl (lv_at hl 1 rfl) ?_
      refine lv_aload_n hx hb dL_law_209 rfl (lv_at hl 0 rfl) ?_
      refine lv_iload_n hx hb dL_law_210 rfl (lv_at hl 3 rfl) ?_
      refine lv_iconst (v := 1) hx hb dL_law_211 (by decide) ?_
      refine lv_iadd hx hb dL_law_212 ?_
      refine va_sld hx hb hX hbl hbA hS hv1 dL_law_213 ?_
      refine lv_aload_n hx hb dL_law_214 rfl (lv_at hl 0 rfl) ?_
      refine lv_iload_n hx hb dL_law_215 rfl (lv_at hl 3 rfl) ?_
      refine lv_iconst (v := 2) hx hb dL_law_216 (by decide) ?_
      refine lv_iadd hx hb dL_law_217 ?_
      refine va_sld hx hb hX hbl hbA hS hv2 dL_law_218 ?_
      refine mw_V (As := [.int (xs (v3 + 1).toNatClampNeg), .int (xs (v3 + 2).toNatClampNeg)]) (rest := []) (T := TX9) (N := 8) (n := 2) ⟨hx, hb, hml, hown, hts⟩ (so_X9_snow l G 0 (xs (v3 + 1).toNatClampNeg) (xs (v3 + 2).toNatClampNeg) M _ hw) wm_R_law_13 wi_yX9_snow wv_yX9_snow wn_RX9 wc_yX9_snow (by decide) ⟨Nat.le_of_ble_eq_true rfl, Nat.le_of_ble_eq_true rfl⟩ ⟨rfl, rfl⟩ k0_ (by decide) (mk9 k0_) rfl hSt hTb hP hS rfl hl.1 rfl (Nat.le_of_ble_eq_true rfl) dL_law_219 ⟨hc1, hc2⟩ (fun rr_ M_7 H locs hq hP hS => ?_)
      obtain ⟨r_8, rfl, hw⟩ := hq
      refine lv_aload_n hx hb dL_law_222 rfl (lv_at hl 2 rfl) ?_
      refine lv_aload_n hx hb dL_law_223 rfl (lv_at hl 0 rfl) ?_
      refine lv_iload_n hx hb dL_law_224 rfl (lv_at hl 3 rfl) ?_
      refine lv_iconst (v := 1) hx hb dL_law_225 (by decide) ?_
      refine lv_iadd hx hb dL_law_226 ?_
      refine va_sld hx hb hX hbl hbA hS hv1 dL_law_227 ?_
      refine lv_aload_n hx hb dL_law_228 rfl (lv_at hl 0 rfl) ?_
      refine lv_iload_n hx hb dL_law_229 rfl (lv_at hl 3 rfl) ?_
      refine lv_iconst (v := 2) hx hb dL_law_230 (by decide) ?_
      refine lv_iadd hx hb dL_law_231 ?_
      refine va_sld hx hb hX hbl hbA hS hv2 dL_law_232 ?_
      refine mw_V (As := [.int (xs (v3 + 1).toNatClampNeg), .int (xs (v3 + 2).toNatClampNeg)]) (rest := [.int r_8]) (T := TX10) (N := 25) (n := 2) ⟨hx, hb, hml, hown, hts⟩ (so_X10_snow l G 120 (xs (v3 + 1).toNatClampNeg) (xs (v3 + 2).toNatClampNeg) M_7 _ hw) wm_R_law_17 wi_yX10_snow wv_yX10_snow wn_RX10 wc_yX10_snow (by decide) ⟨Nat.le_of_ble_eq_true rfl, Nat.le_of_ble_eq_true rfl⟩ ⟨rfl, rfl⟩ k120_ (by decide) (mk10 k120_) rfl hSt hTb hP hS rfl hl.1 rfl (Nat.le_of_ble_eq_true rfl) dL_law_233 ⟨hc1, hc2⟩ (fun rr_ M_11 H locs hq hP hS => ?_)
      obtain ⟨r_12, rfl, hw⟩ := hq
      obtain ⟨ceq, hw⟩ := hw
      refine lv_icmp_eq (tgt := 1508) hx hb dL_law_236 (by decide) (fun _ => ?_) (fun cne => absurd ceq cne)
      exact J_1508 v3 M_11 _ _ _ rfl hw hP hS (lv_sub hl [0, 1, 2, 3] rfl)
    by_cases c_14 : ((xs v3.toNatClampNeg) &&& 63) = 1
    · have hw := hw.2.1 c_14
      refine mw_tcase (tgt := 241) (off := 208) hx hb dL_law_33 c_14 (by decide) ?_
      refine lv_aload_n hx hb dL_law_241 rfl (lv_at hl 1 rfl) ?_
      refine lv_aload_n hx hb dL_law_242 rfl (lv_at hl 0 rfl) ?_
      refine lv_iload_n hx hb dL_law_243 rfl (lv_at hl 3 rfl) ?_
      refine lv_iconst (v := 1) hx hb dL_law_244 (by decide) ?_
      refine lv_iadd hx hb dL_law_245 ?_
      refine va_sld hx hb hX hbl hbA hS hv1 dL_law_246 ?_
      refine lv_aload_n hx hb dL_law_247 rfl (lv_at hl 0 rfl) ?_
      refine lv_iload_n hx hb dL_law_248 rfl (lv_at hl 3 rfl) ?_
      refine lv_iconst (v := 2) hx hb dL_law_249 (by decide) ?_
      refine lv_iadd hx hb dL_law_250 ?_
      refine va_sld hx hb hX hbl hbA hS hv2 dL_law_251 ?_
      refine mw_V (As := [.int (xs (v3 + 1).toNatClampNeg), .int (xs (v3 + 2).toNatClampNeg)]) (rest := []) (T := TX9) (N := 8) (n := 2) ⟨hx, hb, hml, hown, hts⟩ (so_X9_ofCell l G 0 (xs (v3 + 1).toNatClampNeg) (xs (v3 + 2).toNatClampNeg) M _ hw) wm_R_law_18 wi_yX9_ofCell wv_yX9_ofCell wn_RX9 wc_yX9_ofCell (by decide) ⟨Nat.le_of_ble_eq_true rfl, Nat.le_of_ble_eq_true rfl⟩ ⟨rfl, rfl⟩ k0_ (by decide) (mk9 k0_) rfl hSt hTb hP hS rfl hl.1 rfl (Nat.le_of_ble_eq_true rfl) dL_law_252 ⟨hc1, hc2⟩ (fun rr_ M_17 H locs hq hP hS => ?_)
      obtain ⟨r_18, rfl, hw⟩ := hq
      refine lv_aload_n hx hb dL_law_255 rfl (lv_at hl 2 rfl) ?_
      refine lv_aload_n hx hb dL_law_256 rfl (lv_at hl 0 rfl) ?_
      refine lv_iload_n hx hb dL_law_257 rfl (lv_at hl 3 rfl) ?_
      refine lv_iconst (v := 1) hx hb dL_law_258 (by decide) ?_
      refine lv_iadd hx hb dL_law_259 ?_
      refine va_sld hx hb hX hbl hbA hS hv1 dL_law_260 ?_
      refine lv_aload_n hx hb dL_law_261 rfl (lv_at hl 0 rfl) ?_
      refine lv_iload_n hx hb dL_law_262 rfl (lv_at hl 3 rfl) ?_
      refine lv_iconst (v := 2) hx hb dL_law_263 (by decide) ?_
      refine lv_iadd hx hb dL_law_264 ?_
      refine va_sld hx hb hX hbl hbA hS hv2 dL_law_265 ?_
      refine mw_V (As := [.int (xs (v3 + 1).toNatClampNeg), .int (xs (v3 + 2).toNatClampNeg)]) (rest := [.int r_18]) (T := TX10) (N := 25) (n := 2) ⟨hx, hb, hml, hown, hts⟩ (so_X10_ofCell l G 120 (xs (v3 + 1).toNatClampNeg) (xs (v3 + 2).toNatClampNeg) M_17 _ hw) wm_R_law_21 wi_yX10_ofCell wv_yX10_ofCell wn_RX10 wc_yX10_ofCell (by decide) ⟨Nat.le_of_ble_eq_true rfl, Nat.le_of_ble_eq_true rfl⟩ ⟨rfl, rfl⟩ k120_ (by decide) (mk10 k120_) rfl hSt hTb hP hS rfl hl.1 rfl (Nat.le_of_ble_eq_true rfl) dL_law_266 ⟨hc1, hc2⟩ (fun rr_ M_21 H locs hq hP hS => ?_)
      obtain ⟨r_22, rfl, hw⟩ := hq
      obtain ⟨ceq, hw⟩ := hw
      refine lv_icmp_eq (tgt := 1508) hx hb dL_law_269 (by decide) (fun _ => ?_) (fun cne => absurd ceq cne)
      exact J_1508 v3 M_21 _ _ _ rfl hw hP hS (lv_sub hl [0, 1, 2, 3] rfl)
    by_cases c_24 : ((xs v3.toNatClampNeg) &&& 63) = 2
    · have hw := hw.2.2.1 c_24
      refine mw_tcase (tgt := 274) (off := 241) hx hb dL_law_33 c_24 (by decide) ?_
      refine lv_aload_n hx hb dL_law_274 rfl (lv_at hl 1 rfl) ?_
      refine lv_aload_n hx hb dL_law_275 rfl (lv_at hl 0 rfl) ?_
      refine lv_iload_n hx hb dL_law_276 rfl (lv_at hl 3 rfl) ?_
      refine lv_iconst (v := 1) hx hb dL_law_277 (by decide) ?_
      refine lv_iadd hx hb dL_law_278 ?_
      refine va_sld hx hb hX hbl hbA hS hv1 dL_law_279 ?_
      refine lv_aload_n hx hb dL_law_280 rfl (lv_at hl 0 rfl) ?_
      refine lv_iload_n hx hb dL_law_281 rfl (lv_at hl 3 rfl) ?_
      refine lv_iconst (v := 2) hx hb dL_law_282 (by decide) ?_
      refine lv_iadd hx hb dL_law_283 ?_
      refine va_sld hx hb hX hbl hbA hS hv2 dL_law_284 ?_
      refine mw_V (As := [.int (xs (v3 + 1).toNatClampNeg), .int (xs (v3 + 2).toNatClampNeg)]) (rest := []) (T := TX9) (N := 8) (n := 2) ⟨hx, hb, hml, hown, hts⟩ (so_X9_seeker l G 0 (xs (v3 + 1).toNatClampNeg) (xs (v3 + 2).toNatClampNeg) M _ hw) wm_R_law_22 wi_yX9_seeker wv_yX9_seeker wn_RX9 wc_yX9_seeker (by decide) ⟨Nat.le_of_ble_eq_true rfl, Nat.le_of_ble_eq_true rfl⟩ ⟨rfl, rfl⟩ k0_ (by decide) (mk9 k0_) rfl hSt hTb hP hS rfl hl.1 rfl (Nat.le_of_ble_eq_true rfl) dL_law_285 ⟨hc1, hc2⟩ (fun rr_ M_27 H locs hq hP hS => ?_)
      obtain ⟨r_28, rfl, hw⟩ := hq
      refine lv_aload_n hx hb dL_law_288 rfl (lv_at hl 2 rfl) ?_
      refine lv_aload_n hx hb dL_law_289 rfl (lv_at hl 0 rfl) ?_
      refine lv_iload_n hx hb dL_law_290 rfl (lv_at hl 3 rfl) ?_
      refine lv_iconst (v := 1) hx hb dL_law_291 (by decide) ?_
      refine lv_iadd hx hb dL_law_292 ?_
      refine va_sld hx hb hX hbl hbA hS hv1 dL_law_293 ?_
      refine lv_aload_n hx hb dL_law_294 rfl (lv_at hl 0 rfl) ?_
      refine lv_iload_n hx hb dL_law_295 rfl (lv_at hl 3 rfl) ?_
      refine lv_iconst (v := 2) hx hb dL_law_296 (by decide) ?_
      refine lv_iadd hx hb dL_law_297 ?_
      refine va_sld hx hb hX hbl hbA hS hv2 dL_law_298 ?_
      refine mw_V (As := [.int (xs (v3 + 1).toNatClampNeg), .int (xs (v3 + 2).toNatClampNeg)]) (rest := [.int r_28]) (T := TX10) (N := 25) (n := 2) ⟨hx, hb, hml, hown, hts⟩ (so_X10_seeker l G 120 (xs (v3 + 1).toNatClampNeg) (xs (v3 + 2).toNatClampNeg) M_27 _ hw) wm_R_law_25 wi_yX10_seeker wv_yX10_seeker wn_RX10 wc_yX10_seeker (by decide) ⟨Nat.le_of_ble_eq_true rfl, Nat.le_of_ble_eq_true rfl⟩ ⟨rfl, rfl⟩ k120_ (by decide) (mk10 k120_) rfl hSt hTb hP hS rfl hl.1 rfl (Nat.le_of_ble_eq_true rfl) dL_law_299 ⟨hc1, hc2⟩ (fun rr_ M_31 H locs hq hP hS => ?_)
      obtain ⟨r_32, rfl, hw⟩ := hq
      obtain ⟨ceq, hw⟩ := hw
      refine lv_icmp_eq (tgt := 1508) hx hb dL_law_302 (by decide) (fun _ => ?_) (fun cne => absurd ceq cne)
      exact J_1508 v3 M_31 _ _ _ rfl hw hP hS (lv_sub hl [0, 1, 2, 3] rfl)
    by_cases c_34 : ((xs v3.toNatClampNeg) &&& 63) = 3
    · have hw := hw.2.2.2.1 c_34
      refine mw_tcase (tgt := 307) (off := 274) hx hb dL_law_33 c_34 (by decide) ?_
      refine lv_aload_n hx hb dL_law_307 rfl (lv_at hl 1 rfl) ?_
      refine lv_aload_n hx hb dL_law_308 rfl (lv_at hl 0 rfl) ?_
      refine lv_iload_n hx hb dL_law_309 rfl (lv_at hl 3 rfl) ?_
      refine lv_iconst (v := 1) hx hb dL_law_310 (by decide) ?_
      refine lv_iadd hx hb dL_law_311 ?_
      refine va_sld hx hb hX hbl hbA hS hv1 dL_law_312 ?_
      refine lv_aload_n hx hb dL_law_313 rfl (lv_at hl 0 rfl) ?_
      refine lv_iload_n hx hb dL_law_314 rfl (lv_at hl 3 rfl) ?_
      refine lv_iconst (v := 2) hx hb dL_law_315 (by decide) ?_
      refine lv_iadd hx hb dL_law_316 ?_
      refine va_sld hx hb hX hbl hbA hS hv2 dL_law_317 ?_
      refine mw_V (As := [.int (xs (v3 + 1).toNatClampNeg), .int (xs (v3 + 2).toNatClampNeg)]) (rest := []) (T := TX9) (N := 8) (n := 2) ⟨hx, hb, hml, hown, hts⟩ (so_X9_ofSeeker l G 0 (xs (v3 + 1).toNatClampNeg) (xs (v3 + 2).toNatClampNeg) M _ hw) wm_R_law_26 wi_yX9_ofSeeker wv_yX9_ofSeeker wn_RX9 wc_yX9_ofSeeker (by decide) ⟨Nat.le_of_ble_eq_true rfl, Nat.le_of_ble_eq_true rfl⟩ ⟨rfl, rfl⟩ k0_ (by decide) (mk9 k0_) rfl hSt hTb hP hS rfl hl.1 rfl (Nat.le_of_ble_eq_true rfl) dL_law_318 ⟨hc1, hc2⟩ (fun rr_ M_37 H locs hq hP hS => ?_)
      obtain ⟨r_38, rfl, hw⟩ := hq
      refine lv_aload_n hx hb dL_law_321 rfl (lv_at hl 2 rfl) ?_
      refine lv_aload_n hx hb dL_law_322 rfl (lv_at hl 0 rfl) ?_
      refine lv_iload_n hx hb dL_law_323 rfl (lv_at hl 3 rfl) ?_
      refine lv_iconst (v := 1) hx hb dL_law_324 (by decide) ?_
      refine lv_iadd hx hb dL_law_325 ?_
      refine va_sld hx hb hX hbl hbA hS hv1 dL_law_326 ?_
      refine lv_aload_n hx hb dL_law_327 rfl (lv_at hl 0 rfl) ?_
      refine lv_iload_n hx hb dL_law_328 rfl (lv_at hl 3 rfl) ?_
      refine lv_iconst (v := 2) hx hb dL_law_329 (by decide) ?_
      refine lv_iadd hx hb dL_law_330 ?_
      refine va_sld hx hb hX hbl hbA hS hv2 dL_law_331 ?_
      refine mw_V (As := [.int (xs (v3 + 1).toNatClampNeg), .int (xs (v3 + 2).toNatClampNeg)]) (rest := [.int r_38]) (T := TX10) (N := 25) (n := 2) ⟨hx, hb, hml, hown, hts⟩ (so_X10_ofSeeker l G 120 (xs (v3 + 1).toNatClampNeg) (xs (v3 + 2).toNatClampNeg) M_37 _ hw) wm_R_law_29 wi_yX10_ofSeeker wv_yX10_ofSeeker wn_RX10 wc_yX10_ofSeeker (by decide) ⟨Nat.le_of_ble_eq_true rfl, Nat.le_of_ble_eq_true rfl⟩ ⟨rfl, rfl⟩ k120_ (by decide) (mk10 k120_) rfl hSt hTb hP hS rfl hl.1 rfl (Nat.le_of_ble_eq_true rfl) dL_law_332 ⟨hc1, hc2⟩ (fun rr_ M_41 H locs hq hP hS => ?_)
      obtain ⟨r_42, rfl, hw⟩ := hq
      obtain ⟨ceq, hw⟩ := hw
      refine lv_icmp_eq (tgt := 1508) hx hb dL_law_335 (by decide) (fun _ => ?_) (fun cne => absurd ceq cne)
      exact J_1508 v3 M_41 _ _ _ rfl hw hP hS (lv_sub hl [0, 1, 2, 3] rfl)
    by_cases c_44 : ((xs v3.toNatClampNeg) &&& 63) = 4
    · have hw := hw.2.2.2.2.1 c_44
      refine mw_tcase (tgt := 340) (off := 307) hx hb dL_law_33 c_44 (by decide) ?_
      refine lv_aload_n hx hb dL_law_340 rfl (lv_at hl 1 rfl) ?_
      refine lv_aload_n hx hb dL_law_341 rfl (lv_at hl 0 rfl) ?_
      refine lv_iload_n hx hb dL_law_342 rfl (lv_at hl 3 rfl) ?_
      refine lv_iconst (v := 1) hx hb dL_law_343 (by decide) ?_
      refine lv_iadd hx hb dL_law_344 ?_
      refine va_sld hx hb hX hbl hbA hS hv1 dL_law_345 ?_
      refine lv_aload_n hx hb dL_law_346 rfl (lv_at hl 0 rfl) ?_
      refine lv_iload_n hx hb dL_law_347 rfl (lv_at hl 3 rfl) ?_
      refine lv_iconst (v := 2) hx hb dL_law_348 (by decide) ?_
      refine lv_iadd hx hb dL_law_349 ?_
      refine va_sld hx hb hX hbl hbA hS hv2 dL_law_350 ?_
      refine lv_aload_n hx hb dL_law_351 rfl (lv_at hl 0 rfl) ?_
      refine lv_iload_n hx hb dL_law_352 rfl (lv_at hl 3 rfl) ?_
      refine lv_iconst (v := 3) hx hb dL_law_353 (by decide) ?_
      refine lv_iadd hx hb dL_law_354 ?_
      refine va_sld hx hb hX hbl hbA hS hv3 dL_law_355 ?_
      refine mw_V (As := [.int (xs (v3 + 1).toNatClampNeg), .int (xs (v3 + 2).toNatClampNeg), .int (xs (v3 + 3).toNatClampNeg)]) (rest := []) (T := TX9) (N := 8) (n := 3) ⟨hx, hb, hml, hown, hts⟩ (so_X9_send l G 0 (xs (v3 + 1).toNatClampNeg) (xs (v3 + 2).toNatClampNeg) (xs (v3 + 3).toNatClampNeg) M _ hw) wm_R_law_30 wi_yX9_send wv_yX9_send wn_RX9 wc_yX9_send (by decide) ⟨Nat.le_of_ble_eq_true rfl, Nat.le_of_ble_eq_true rfl⟩ ⟨rfl, rfl⟩ k0_ (by decide) (mk9 k0_) rfl hSt hTb hP hS rfl hl.1 rfl (Nat.le_of_ble_eq_true rfl) dL_law_356 ⟨hc1, hc2⟩ (fun rr_ M_48 H locs hq hP hS => ?_)
      obtain ⟨r_49, rfl, hw⟩ := hq
      refine lv_aload_n hx hb dL_law_359 rfl (lv_at hl 2 rfl) ?_
      refine lv_aload_n hx hb dL_law_360 rfl (lv_at hl 0 rfl) ?_
      refine lv_iload_n hx hb dL_law_361 rfl (lv_at hl 3 rfl) ?_
      refine lv_iconst (v := 1) hx hb dL_law_362 (by decide) ?_
      refine lv_iadd hx hb dL_law_363 ?_
      refine va_sld hx hb hX hbl hbA hS hv1 dL_law_364 ?_
      refine lv_aload_n hx hb dL_law_365 rfl (lv_at hl 0 rfl) ?_
      refine lv_iload_n hx hb dL_law_366 rfl (lv_at hl 3 rfl) ?_
      refine lv_iconst (v := 2) hx hb dL_law_367 (by decide) ?_
      refine lv_iadd hx hb dL_law_368 ?_
      refine va_sld hx hb hX hbl hbA hS hv2 dL_law_369 ?_
      refine lv_aload_n hx hb dL_law_370 rfl (lv_at hl 0 rfl) ?_
      refine lv_iload_n hx hb dL_law_371 rfl (lv_at hl 3 rfl) ?_
      refine lv_iconst (v := 3) hx hb dL_law_372 (by decide) ?_
      refine lv_iadd hx hb dL_law_373 ?_
      refine va_sld hx hb hX hbl hbA hS hv3 dL_law_374 ?_
      refine mw_V (As := [.int (xs (v3 + 1).toNatClampNeg), .int (xs (v3 + 2).toNatClampNeg), .int (xs (v3 + 3).toNatClampNeg)]) (rest := [.int r_49]) (T := TX10) (N := 25) (n := 3) ⟨hx, hb, hml, hown, hts⟩ (so_X10_send l G 120 (xs (v3 + 1).toNatClampNeg) (xs (v3 + 2).toNatClampNeg) (xs (v3 + 3).toNatClampNeg) M_48 _ hw) wm_R_law_34 wi_yX10_send wv_yX10_send wn_RX10 wc_yX10_send (by decide) ⟨Nat.le_of_ble_eq_true rfl, Nat.le_of_ble_eq_true rfl⟩ ⟨rfl, rfl⟩ k120_ (by decide) (mk10 k120_) rfl hSt hTb hP hS rfl hl.1 rfl (Nat.le_of_ble_eq_true rfl) dL_law_375 ⟨hc1, hc2⟩ (fun rr_ M_53 H locs hq hP hS => ?_)
      obtain ⟨r_54, rfl, hw⟩ := hq
      obtain ⟨ceq, hw⟩ := hw
      refine lv_icmp_eq (tgt := 1508) hx hb dL_law_378 (by decide) (fun _ => ?_) (fun cne => absurd ceq cne)
      exact J_1508 v3 M_53 _ _ _ rfl hw hP hS (lv_sub hl [0, 1, 2, 3] rfl)
    by_cases c_56 : ((xs v3.toNatClampNeg) &&& 63) = 5
    · have hw := hw.2.2.2.2.2.1 c_56
      refine mw_tcase (tgt := 383) (off := 350) hx hb dL_law_33 c_56 (by decide) ?_
      refine lv_aload_n hx hb dL_law_383 rfl (lv_at hl 1 rfl) ?_
      refine lv_aload_n hx hb dL_law_384 rfl (lv_at hl 0 rfl) ?_
      refine lv_iload_n hx hb dL_law_385 rfl (lv_at hl 3 rfl) ?_
      refine lv_iconst (v := 1) hx hb dL_law_386 (by decide) ?_
      refine lv_iadd hx hb dL_law_387 ?_
      refine va_sld hx hb hX hbl hbA hS hv1 dL_law_388 ?_
      refine lv_aload_n hx hb dL_law_389 rfl (lv_at hl 0 rfl) ?_
      refine lv_iload_n hx hb dL_law_390 rfl (lv_at hl 3 rfl) ?_
      refine lv_iconst (v := 2) hx hb dL_law_391 (by decide) ?_
      refine lv_iadd hx hb dL_law_392 ?_
      refine va_sld hx hb hX hbl hbA hS hv2 dL_law_393 ?_
      refine lv_aload_n hx hb dL_law_394 rfl (lv_at hl 0 rfl) ?_
      refine lv_iload_n hx hb dL_law_395 rfl (lv_at hl 3 rfl) ?_
      refine lv_iconst (v := 3) hx hb dL_law_396 (by decide) ?_
      refine lv_iadd hx hb dL_law_397 ?_
      refine va_sld hx hb hX hbl hbA hS hv3 dL_law_398 ?_
      refine lv_aload_n hx hb dL_law_399 rfl (lv_at hl 0 rfl) ?_
      refine lv_iload_n hx hb dL_law_400 rfl (lv_at hl 3 rfl) ?_
      refine lv_iconst (v := 4) hx hb dL_law_401 (by decide) ?_
      refine lv_iadd hx hb dL_law_402 ?_
      refine va_sld hx hb hX hbl hbA hS hv4 dL_law_403 ?_
      refine mw_V (As := [.int (xs (v3 + 1).toNatClampNeg), .int (xs (v3 + 2).toNatClampNeg), .int (xs (v3 + 3).toNatClampNeg), .int (xs (v3 + 4).toNatClampNeg)]) (rest := []) (T := TX9) (N := 8) (n := 4) ⟨hx, hb, hml, hown, hts⟩ (so_X9_sheep l G 0 (xs (v3 + 1).toNatClampNeg) (xs (v3 + 2).toNatClampNeg) (xs (v3 + 3).toNatClampNeg) (xs (v3 + 4).toNatClampNeg) M _ hw) wm_R_law_35 wi_yX9_sheep wv_yX9_sheep wn_RX9 wc_yX9_sheep (by decide) ⟨Nat.le_of_ble_eq_true rfl, Nat.le_of_ble_eq_true rfl⟩ ⟨rfl, rfl⟩ k0_ (by decide) (mk9 k0_) rfl hSt hTb hP hS rfl hl.1 rfl (Nat.le_of_ble_eq_true rfl) dL_law_404 ⟨hc1, hc2⟩ (fun rr_ M_61 H locs hq hP hS => ?_)
      obtain ⟨r_62, rfl, hw⟩ := hq
      refine lv_aload_n hx hb dL_law_407 rfl (lv_at hl 2 rfl) ?_
      refine lv_aload_n hx hb dL_law_408 rfl (lv_at hl 0 rfl) ?_
      refine lv_iload_n hx hb dL_law_409 rfl (lv_at hl 3 rfl) ?_
      refine lv_iconst (v := 1) hx hb dL_law_410 (by decide) ?_
      refine lv_iadd hx hb dL_law_411 ?_
      refine va_sld hx hb hX hbl hbA hS hv1 dL_law_412 ?_
      refine lv_aload_n hx hb dL_law_413 rfl (lv_at hl 0 rfl) ?_
      refine lv_iload_n hx hb dL_law_414 rfl (lv_at hl 3 rfl) ?_
      refine lv_iconst (v := 2) hx hb dL_law_415 (by decide) ?_
      refine lv_iadd hx hb dL_law_416 ?_
      refine va_sld hx hb hX hbl hbA hS hv2 dL_law_417 ?_
      refine lv_aload_n hx hb dL_law_418 rfl (lv_at hl 0 rfl) ?_
      refine lv_iload_n hx hb dL_law_419 rfl (lv_at hl 3 rfl) ?_
      refine lv_iconst (v := 3) hx hb dL_law_420 (by decide) ?_
      refine lv_iadd hx hb dL_law_421 ?_
      refine va_sld hx hb hX hbl hbA hS hv3 dL_law_422 ?_
      refine lv_aload_n hx hb dL_law_423 rfl (lv_at hl 0 rfl) ?_
      refine lv_iload_n hx hb dL_law_424 rfl (lv_at hl 3 rfl) ?_
      refine lv_iconst (v := 4) hx hb dL_law_425 (by decide) ?_
      refine lv_iadd hx hb dL_law_426 ?_
      refine va_sld hx hb hX hbl hbA hS hv4 dL_law_427 ?_
      refine mw_V (As := [.int (xs (v3 + 1).toNatClampNeg), .int (xs (v3 + 2).toNatClampNeg), .int (xs (v3 + 3).toNatClampNeg), .int (xs (v3 + 4).toNatClampNeg)]) (rest := [.int r_62]) (T := TX10) (N := 25) (n := 4) ⟨hx, hb, hml, hown, hts⟩ (so_X10_sheep l G 120 (xs (v3 + 1).toNatClampNeg) (xs (v3 + 2).toNatClampNeg) (xs (v3 + 3).toNatClampNeg) (xs (v3 + 4).toNatClampNeg) M_61 _ hw) wm_R_law_39 wi_yX10_sheep wv_yX10_sheep wn_RX10 wc_yX10_sheep (by decide) ⟨Nat.le_of_ble_eq_true rfl, Nat.le_of_ble_eq_true rfl⟩ ⟨rfl, rfl⟩ k120_ (by decide) (mk10 k120_) rfl hSt hTb hP hS rfl hl.1 rfl (Nat.le_of_ble_eq_true rfl) dL_law_428 ⟨hc1, hc2⟩ (fun rr_ M_67 H locs hq hP hS => ?_)
      obtain ⟨r_68, rfl, hw⟩ := hq
      obtain ⟨ceq, hw⟩ := hw
      refine lv_icmp_eq (tgt := 1508) hx hb dL_law_431 (by decide) (fun _ => ?_) (fun cne => absurd ceq cne)
      exact J_1508 v3 M_67 _ _ _ rfl hw hP hS (lv_sub hl [0, 1, 2, 3] rfl)
    by_cases c_70 : ((xs v3.toNatClampNeg) &&& 63) = 6
    · have hw := hw.2.2.2.2.2.2.1 c_70
      refine mw_tcase (tgt := 436) (off := 403) hx hb dL_law_33 c_70 (by decide) ?_
      refine lv_aload_n hx hb dL_law_436 rfl (lv_at hl 1 rfl) ?_
      refine lv_aload_n hx hb dL_law_437 rfl (lv_at hl 0 rfl) ?_
      refine lv_iload_n hx hb dL_law_438 rfl (lv_at hl 3 rfl) ?_
      refine lv_iconst (v := 1) hx hb dL_law_439 (by decide) ?_
      refine lv_iadd hx hb dL_law_440 ?_
      refine va_sld hx hb hX hbl hbA hS hv1 dL_law_441 ?_
      refine lv_aload_n hx hb dL_law_442 rfl (lv_at hl 0 rfl) ?_
      refine lv_iload_n hx hb dL_law_443 rfl (lv_at hl 3 rfl) ?_
      refine lv_iconst (v := 2) hx hb dL_law_444 (by decide) ?_
      refine lv_iadd hx hb dL_law_445 ?_
      refine va_sld hx hb hX hbl hbA hS hv2 dL_law_446 ?_
      refine mw_V (As := [.int (xs (v3 + 1).toNatClampNeg), .int (xs (v3 + 2).toNatClampNeg)]) (rest := []) (T := TX9) (N := 8) (n := 2) ⟨hx, hb, hml, hown, hts⟩ (so_X9_ofSheep l G 0 (xs (v3 + 1).toNatClampNeg) (xs (v3 + 2).toNatClampNeg) M _ hw) wm_R_law_40 wi_yX9_ofSheep wv_yX9_ofSheep wn_RX9 wc_yX9_ofSheep (by decide) ⟨Nat.le_of_ble_eq_true rfl, Nat.le_of_ble_eq_true rfl⟩ ⟨rfl, rfl⟩ k0_ (by decide) (mk9 k0_) rfl hSt hTb hP hS rfl hl.1 rfl (Nat.le_of_ble_eq_true rfl) dL_law_447 ⟨hc1, hc2⟩ (fun rr_ M_73 H locs hq hP hS => ?_)
      obtain ⟨r_74, rfl, hw⟩ := hq
      refine lv_aload_n hx hb dL_law_450 rfl (lv_at hl 2 rfl) ?_
      refine lv_aload_n hx hb dL_law_451 rfl (lv_at hl 0 rfl) ?_
      refine lv_iload_n hx hb dL_law_452 rfl (lv_at hl 3 rfl) ?_
      refine lv_iconst (v := 1) hx hb dL_law_453 (by decide) ?_
      refine lv_iadd hx hb dL_law_454 ?_
      refine va_sld hx hb hX hbl hbA hS hv1 dL_law_455 ?_
      refine lv_aload_n hx hb dL_law_456 rfl (lv_at hl 0 rfl) ?_
      refine lv_iload_n hx hb dL_law_457 rfl (lv_at hl 3 rfl) ?_
      refine lv_iconst (v := 2) hx hb dL_law_458 (by decide) ?_
      refine lv_iadd hx hb dL_law_459 ?_
      refine va_sld hx hb hX hbl hbA hS hv2 dL_law_460 ?_
      refine mw_V (As := [.int (xs (v3 + 1).toNatClampNeg), .int (xs (v3 + 2).toNatClampNeg)]) (rest := [.int r_74]) (T := TX10) (N := 25) (n := 2) ⟨hx, hb, hml, hown, hts⟩ (so_X10_ofSheep l G 120 (xs (v3 + 1).toNatClampNeg) (xs (v3 + 2).toNatClampNeg) M_73 _ hw) wm_R_law_43 wi_yX10_ofSheep wv_yX10_ofSheep wn_RX10 wc_yX10_ofSheep (by decide) ⟨Nat.le_of_ble_eq_true rfl, Nat.le_of_ble_eq_true rfl⟩ ⟨rfl, rfl⟩ k120_ (by decide) (mk10 k120_) rfl hSt hTb hP hS rfl hl.1 rfl (Nat.le_of_ble_eq_true rfl) dL_law_461 ⟨hc1, hc2⟩ (fun rr_ M_77 H locs hq hP hS => ?_)
      obtain ⟨r_78, rfl, hw⟩ := hq
      obtain ⟨ceq, hw⟩ := hw
      refine lv_icmp_eq (tgt := 1508) hx hb dL_law_464 (by decide) (fun _ => ?_) (fun cne => absurd ceq cne)
      exact J_1508 v3 M_77 _ _ _ rfl hw hP hS (lv_sub hl [0, 1, 2, 3] rfl)
    by_cases c_80 : ((xs v3.toNatClampNeg) &&& 63) = 7
    · have hw := hw.2.2.2.2.2.2.2.1 c_80
      refine mw_tcase (tgt := 469) (off := 436) hx hb dL_law_33 c_80 (by decide) ?_
      refine lv_aload_n hx hb dL_law_469 rfl (lv_at hl 1 rfl) ?_
      refine lv_aload_n hx hb dL_law_470 rfl (lv_at hl 0 rfl) ?_
      refine lv_iload_n hx hb dL_law_471 rfl (lv_at hl 3 rfl) ?_
      refine lv_iconst (v := 1) hx hb dL_law_472 (by decide) ?_
      refine lv_iadd hx hb dL_law_473 ?_
      refine va_sld hx hb hX hbl hbA hS hv1 dL_law_474 ?_
      refine lv_aload_n hx hb dL_law_475 rfl (lv_at hl 0 rfl) ?_
      refine lv_iload_n hx hb dL_law_476 rfl (lv_at hl 3 rfl) ?_
      refine lv_iconst (v := 2) hx hb dL_law_477 (by decide) ?_
      refine lv_iadd hx hb dL_law_478 ?_
      refine va_sld hx hb hX hbl hbA hS hv2 dL_law_479 ?_
      refine lv_aload_n hx hb dL_law_480 rfl (lv_at hl 0 rfl) ?_
      refine lv_iload_n hx hb dL_law_481 rfl (lv_at hl 3 rfl) ?_
      refine lv_iconst (v := 3) hx hb dL_law_482 (by decide) ?_
      refine lv_iadd hx hb dL_law_483 ?_
      refine va_sld hx hb hX hbl hbA hS hv3 dL_law_484 ?_
      refine mw_V (As := [.int (xs (v3 + 1).toNatClampNeg), .int (xs (v3 + 2).toNatClampNeg), .int (xs (v3 + 3).toNatClampNeg)]) (rest := []) (T := TX9) (N := 8) (n := 3) ⟨hx, hb, hml, hown, hts⟩ (so_X9_change l G 0 (xs (v3 + 1).toNatClampNeg) (xs (v3 + 2).toNatClampNeg) (xs (v3 + 3).toNatClampNeg) M _ hw) wm_R_law_44 wi_yX9_change wv_yX9_change wn_RX9 wc_yX9_change (by decide) ⟨Nat.le_of_ble_eq_true rfl, Nat.le_of_ble_eq_true rfl⟩ ⟨rfl, rfl⟩ k0_ (by decide) (mk9 k0_) rfl hSt hTb hP hS rfl hl.1 rfl (Nat.le_of_ble_eq_true rfl) dL_law_485 ⟨hc1, hc2⟩ (fun rr_ M_84 H locs hq hP hS => ?_)
      obtain ⟨r_85, rfl, hw⟩ := hq
      refine lv_aload_n hx hb dL_law_488 rfl (lv_at hl 2 rfl) ?_
      refine lv_aload_n hx hb dL_law_489 rfl (lv_at hl 0 rfl) ?_
      refine lv_iload_n hx hb dL_law_490 rfl (lv_at hl 3 rfl) ?_
      refine lv_iconst (v := 1) hx hb dL_law_491 (by decide) ?_
      refine lv_iadd hx hb dL_law_492 ?_
      refine va_sld hx hb hX hbl hbA hS hv1 dL_law_493 ?_
      refine lv_aload_n hx hb dL_law_494 rfl (lv_at hl 0 rfl) ?_
      refine lv_iload_n hx hb dL_law_495 rfl (lv_at hl 3 rfl) ?_
      refine lv_iconst (v := 2) hx hb dL_law_496 (by decide) ?_
      refine lv_iadd hx hb dL_law_497 ?_
      refine va_sld hx hb hX hbl hbA hS hv2 dL_law_498 ?_
      refine lv_aload_n hx hb dL_law_499 rfl (lv_at hl 0 rfl) ?_
      refine lv_iload_n hx hb dL_law_500 rfl (lv_at hl 3 rfl) ?_
      refine lv_iconst (v := 3) hx hb dL_law_501 (by decide) ?_
      refine lv_iadd hx hb dL_law_502 ?_
      refine va_sld hx hb hX hbl hbA hS hv3 dL_law_503 ?_
      refine mw_V (As := [.int (xs (v3 + 1).toNatClampNeg), .int (xs (v3 + 2).toNatClampNeg), .int (xs (v3 + 3).toNatClampNeg)]) (rest := [.int r_85]) (T := TX10) (N := 25) (n := 3) ⟨hx, hb, hml, hown, hts⟩ (so_X10_change l G 120 (xs (v3 + 1).toNatClampNeg) (xs (v3 + 2).toNatClampNeg) (xs (v3 + 3).toNatClampNeg) M_84 _ hw) wm_R_law_47 wi_yX10_change wv_yX10_change wn_RX10 wc_yX10_change (by decide) ⟨Nat.le_of_ble_eq_true rfl, Nat.le_of_ble_eq_true rfl⟩ ⟨rfl, rfl⟩ k120_ (by decide) (mk10 k120_) rfl hSt hTb hP hS rfl hl.1 rfl (Nat.le_of_ble_eq_true rfl) dL_law_504 ⟨hc1, hc2⟩ (fun rr_ M_89 H locs hq hP hS => ?_)
      obtain ⟨r_90, rfl, hw⟩ := hq
      obtain ⟨ceq, hw⟩ := hw
      refine lv_icmp_eq (tgt := 1508) hx hb dL_law_507 (by decide) (fun _ => ?_) (fun cne => absurd ceq cne)
      exact J_1508 v3 M_89 _ _ _ rfl hw hP hS (lv_sub hl [0, 1, 2, 3] rfl)
    by_cases c_92 : ((xs v3.toNatClampNeg) &&& 63) = 8
    · have hw := hw.2.2.2.2.2.2.2.2.1 c_92
      refine mw_tcase (tgt := 512) (off := 479) hx hb dL_law_33 c_92 (by decide) ?_
      refine lv_aload_n hx hb dL_law_512 rfl (lv_at hl 1 rfl) ?_
      refine lv_aload_n hx hb dL_law_513 rfl (lv_at hl 0 rfl) ?_
      refine lv_iload_n hx hb dL_law_514 rfl (lv_at hl 3 rfl) ?_
      refine lv_iconst (v := 1) hx hb dL_law_515 (by decide) ?_
      refine lv_iadd hx hb dL_law_516 ?_
      refine va_sld hx hb hX hbl hbA hS hv1 dL_law_517 ?_
      refine lv_aload_n hx hb dL_law_518 rfl (lv_at hl 0 rfl) ?_
      refine lv_iload_n hx hb dL_law_519 rfl (lv_at hl 3 rfl) ?_
      refine lv_iconst (v := 2) hx hb dL_law_520 (by decide) ?_
      refine lv_iadd hx hb dL_law_521 ?_
      refine va_sld hx hb hX hbl hbA hS hv2 dL_law_522 ?_
      refine mw_V (As := [.int (xs (v3 + 1).toNatClampNeg), .int (xs (v3 + 2).toNatClampNeg)]) (rest := []) (T := TX9) (N := 8) (n := 2) ⟨hx, hb, hml, hown, hts⟩ (so_X9_become l G 0 (xs (v3 + 1).toNatClampNeg) (xs (v3 + 2).toNatClampNeg) M _ hw) wm_R_law_48 wi_yX9_become wv_yX9_become wn_RX9 wc_yX9_become (by decide) ⟨Nat.le_of_ble_eq_true rfl, Nat.le_of_ble_eq_true rfl⟩ ⟨rfl, rfl⟩ k0_ (by decide) (mk9 k0_) rfl hSt hTb hP hS rfl hl.1 rfl (Nat.le_of_ble_eq_true rfl) dL_law_523 ⟨hc1, hc2⟩ (fun rr_ M_95 H locs hq hP hS => ?_)
      obtain ⟨r_96, rfl, hw⟩ := hq
      refine lv_aload_n hx hb dL_law_526 rfl (lv_at hl 2 rfl) ?_
      refine lv_aload_n hx hb dL_law_527 rfl (lv_at hl 0 rfl) ?_
      refine lv_iload_n hx hb dL_law_528 rfl (lv_at hl 3 rfl) ?_
      refine lv_iconst (v := 1) hx hb dL_law_529 (by decide) ?_
      refine lv_iadd hx hb dL_law_530 ?_
      refine va_sld hx hb hX hbl hbA hS hv1 dL_law_531 ?_
      refine lv_aload_n hx hb dL_law_532 rfl (lv_at hl 0 rfl) ?_
      refine lv_iload_n hx hb dL_law_533 rfl (lv_at hl 3 rfl) ?_
      refine lv_iconst (v := 2) hx hb dL_law_534 (by decide) ?_
      refine lv_iadd hx hb dL_law_535 ?_
      refine va_sld hx hb hX hbl hbA hS hv2 dL_law_536 ?_
      refine mw_V (As := [.int (xs (v3 + 1).toNatClampNeg), .int (xs (v3 + 2).toNatClampNeg)]) (rest := [.int r_96]) (T := TX10) (N := 25) (n := 2) ⟨hx, hb, hml, hown, hts⟩ (so_X10_become l G 120 (xs (v3 + 1).toNatClampNeg) (xs (v3 + 2).toNatClampNeg) M_95 _ hw) wm_R_law_51 wi_yX10_become wv_yX10_become wn_RX10 wc_yX10_become (by decide) ⟨Nat.le_of_ble_eq_true rfl, Nat.le_of_ble_eq_true rfl⟩ ⟨rfl, rfl⟩ k120_ (by decide) (mk10 k120_) rfl hSt hTb hP hS rfl hl.1 rfl (Nat.le_of_ble_eq_true rfl) dL_law_537 ⟨hc1, hc2⟩ (fun rr_ M_99 H locs hq hP hS => ?_)
      obtain ⟨r_100, rfl, hw⟩ := hq
      obtain ⟨ceq, hw⟩ := hw
      refine lv_icmp_eq (tgt := 1508) hx hb dL_law_540 (by decide) (fun _ => ?_) (fun cne => absurd ceq cne)
      exact J_1508 v3 M_99 _ _ _ rfl hw hP hS (lv_sub hl [0, 1, 2, 3] rfl)
    by_cases c_102 : ((xs v3.toNatClampNeg) &&& 63) = 9
    · have hw := hw.2.2.2.2.2.2.2.2.2.1 c_102
      refine mw_tcase (tgt := 545) (off := 512) hx hb dL_law_33 c_102 (by decide) ?_
      refine lv_aload_n hx hb dL_law_545 rfl (lv_at hl 1 rfl) ?_
      refine lv_aload_n hx hb dL_law_546 rfl (lv_at hl 0 rfl) ?_
      refine lv_iload_n hx hb dL_law_547 rfl (lv_at hl 3 rfl) ?_
      refine lv_iconst (v := 1) hx hb dL_law_548 (by decide) ?_
      refine lv_iadd hx hb dL_law_549 ?_
      refine va_sld hx hb hX hbl hbA hS hv1 dL_law_550 ?_
      refine lv_aload_n hx hb dL_law_551 rfl (lv_at hl 0 rfl) ?_
      refine lv_iload_n hx hb dL_law_552 rfl (lv_at hl 3 rfl) ?_
      refine lv_iconst (v := 2) hx hb dL_law_553 (by decide) ?_
      refine lv_iadd hx hb dL_law_554 ?_
      refine va_sld hx hb hX hbl hbA hS hv2 dL_law_555 ?_
      refine mw_V (As := [.int (xs (v3 + 1).toNatClampNeg), .int (xs (v3 + 2).toNatClampNeg)]) (rest := []) (T := TX9) (N := 8) (n := 2) ⟨hx, hb, hml, hown, hts⟩ (so_X9_as l G 0 (xs (v3 + 1).toNatClampNeg) (xs (v3 + 2).toNatClampNeg) M _ hw) wm_R_law_52 wi_yX9_as wv_yX9_as wn_RX9 wc_yX9_as (by decide) ⟨Nat.le_of_ble_eq_true rfl, Nat.le_of_ble_eq_true rfl⟩ ⟨rfl, rfl⟩ k0_ (by decide) (mk9 k0_) rfl hSt hTb hP hS rfl hl.1 rfl (Nat.le_of_ble_eq_true rfl) dL_law_556 ⟨hc1, hc2⟩ (fun rr_ M_105 H locs hq hP hS => ?_)
      obtain ⟨r_106, rfl, hw⟩ := hq
      refine lv_aload_n hx hb dL_law_559 rfl (lv_at hl 2 rfl) ?_
      refine lv_aload_n hx hb dL_law_560 rfl (lv_at hl 0 rfl) ?_
      refine lv_iload_n hx hb dL_law_561 rfl (lv_at hl 3 rfl) ?_
      refine lv_iconst (v := 1) hx hb dL_law_562 (by decide) ?_
      refine lv_iadd hx hb dL_law_563 ?_
      refine va_sld hx hb hX hbl hbA hS hv1 dL_law_564 ?_
      refine lv_aload_n hx hb dL_law_565 rfl (lv_at hl 0 rfl) ?_
      refine lv_iload_n hx hb dL_law_566 rfl (lv_at hl 3 rfl) ?_
      refine lv_iconst (v := 2) hx hb dL_law_567 (by decide) ?_
      refine lv_iadd hx hb dL_law_568 ?_
      refine va_sld hx hb hX hbl hbA hS hv2 dL_law_569 ?_
      refine mw_V (As := [.int (xs (v3 + 1).toNatClampNeg), .int (xs (v3 + 2).toNatClampNeg)]) (rest := [.int r_106]) (T := TX10) (N := 25) (n := 2) ⟨hx, hb, hml, hown, hts⟩ (so_X10_as l G 120 (xs (v3 + 1).toNatClampNeg) (xs (v3 + 2).toNatClampNeg) M_105 _ hw) wm_R_law_55 wi_yX10_as wv_yX10_as wn_RX10 wc_yX10_as (by decide) ⟨Nat.le_of_ble_eq_true rfl, Nat.le_of_ble_eq_true rfl⟩ ⟨rfl, rfl⟩ k120_ (by decide) (mk10 k120_) rfl hSt hTb hP hS rfl hl.1 rfl (Nat.le_of_ble_eq_true rfl) dL_law_570 ⟨hc1, hc2⟩ (fun rr_ M_109 H locs hq hP hS => ?_)
      obtain ⟨r_110, rfl, hw⟩ := hq
      obtain ⟨ceq, hw⟩ := hw
      refine lv_icmp_eq (tgt := 1508) hx hb dL_law_573 (by decide) (fun _ => ?_) (fun cne => absurd ceq cne)
      exact J_1508 v3 M_109 _ _ _ rfl hw hP hS (lv_sub hl [0, 1, 2, 3] rfl)
    by_cases c_112 : ((xs v3.toNatClampNeg) &&& 63) = 10
    · have hw := hw.2.2.2.2.2.2.2.2.2.2.1 c_112
      refine mw_tcase (tgt := 578) (off := 545) hx hb dL_law_33 c_112 (by decide) ?_
      refine lv_aload_n hx hb dL_law_578 rfl (lv_at hl 1 rfl) ?_
      refine lv_aload_n hx hb dL_law_579 rfl (lv_at hl 0 rfl) ?_
      refine lv_iload_n hx hb dL_law_580 rfl (lv_at hl 3 rfl) ?_
      refine lv_iconst (v := 1) hx hb dL_law_581 (by decide) ?_
      refine lv_iadd hx hb dL_law_582 ?_
      refine va_sld hx hb hX hbl hbA hS hv1 dL_law_583 ?_
      refine lv_i2l (v := (xs (v3 + 1).toNatClampNeg).toInt64) hx hb dL_law_584 rfl ?_
      refine lv_bipush (v := 32) hx hb dL_law_585 (by decide) ?_
      refine lv_lshl (v := lsl' ((xs (v3 + 1).toNatClampNeg).toInt64) 32) hx hb dL_law_587 rfl ?_
      refine lv_aload_n hx hb dL_law_588 rfl (lv_at hl 0 rfl) ?_
      refine lv_iload_n hx hb dL_law_589 rfl (lv_at hl 3 rfl) ?_
      refine lv_iconst (v := 2) hx hb dL_law_590 (by decide) ?_
      refine lv_iadd hx hb dL_law_591 ?_
      refine va_sld hx hb hX hbl hbA hS hv2 dL_law_592 ?_
      refine lv_i2l (v := (xs (v3 + 2).toNatClampNeg).toInt64) hx hb dL_law_593 rfl ?_
      refine lv_ldc2 (v := 4294967295) hx hb hown (ht _ wk_R_law_56) dL_law_594 ?_
      refine lv_land hx hb dL_law_597 ?_
      refine lv_lor hx hb dL_law_598 ?_
      refine lv_aload_n hx hb dL_law_599 rfl (lv_at hl 0 rfl) ?_
      refine lv_iload_n hx hb dL_law_600 rfl (lv_at hl 3 rfl) ?_
      refine lv_iconst (v := 3) hx hb dL_law_601 (by decide) ?_
      refine lv_iadd hx hb dL_law_602 ?_
      refine va_sld hx hb hX hbl hbA hS hv3 dL_law_603 ?_
      refine mw_V (As := [.long ((lsl' ((xs (v3 + 1).toNatClampNeg).toInt64) 32) ||| (((xs (v3 + 2).toNatClampNeg).toInt64) &&& 4294967295)), .int (xs (v3 + 3).toNatClampNeg)]) (rest := []) (T := TX9) (N := 8) (n := 2) ⟨hx, hb, hml, hown, hts⟩ (so_X9_feed l G 0 ((lsl' ((xs (v3 + 1).toNatClampNeg).toInt64) 32) ||| (((xs (v3 + 2).toNatClampNeg).toInt64) &&& 4294967295)) (xs (v3 + 3).toNatClampNeg) M _ hw) wm_R_law_58 wi_yX9_feed wv_yX9_feed wn_RX9 wc_yX9_feed (by decide) ⟨Nat.le_of_ble_eq_true rfl, Nat.le_of_ble_eq_true rfl⟩ ⟨rfl, rfl⟩ k0_ (by decide) (mk9 k0_) rfl hSt hTb hP hS rfl hl.1 rfl (Nat.le_of_ble_eq_true rfl) dL_law_604 ⟨hc1, hc2⟩ (fun rr_ M_116 H locs hq hP hS => ?_)
      obtain ⟨r_117, rfl, hw⟩ := hq
      refine lv_aload_n hx hb dL_law_607 rfl (lv_at hl 2 rfl) ?_
      refine lv_aload_n hx hb dL_law_608 rfl (lv_at hl 0 rfl) ?_
      refine lv_iload_n hx hb dL_law_609 rfl (lv_at hl 3 rfl) ?_
      refine lv_iconst (v := 1) hx hb dL_law_610 (by decide) ?_
      refine lv_iadd hx hb dL_law_611 ?_
      refine va_sld hx hb hX hbl hbA hS hv1 dL_law_612 ?_
      refine lv_i2l (v := (xs (v3 + 1).toNatClampNeg).toInt64) hx hb dL_law_613 rfl ?_
      refine lv_bipush (v := 32) hx hb dL_law_614 (by decide) ?_
      refine lv_lshl (v := lsl' ((xs (v3 + 1).toNatClampNeg).toInt64) 32) hx hb dL_law_616 rfl ?_
      refine lv_aload_n hx hb dL_law_617 rfl (lv_at hl 0 rfl) ?_
      refine lv_iload_n hx hb dL_law_618 rfl (lv_at hl 3 rfl) ?_
      refine lv_iconst (v := 2) hx hb dL_law_619 (by decide) ?_
      refine lv_iadd hx hb dL_law_620 ?_
      refine va_sld hx hb hX hbl hbA hS hv2 dL_law_621 ?_
      refine lv_i2l (v := (xs (v3 + 2).toNatClampNeg).toInt64) hx hb dL_law_622 rfl ?_
      refine lv_ldc2 (v := 4294967295) hx hb hown (ht _ wk_R_law_56) dL_law_623 ?_
      refine lv_land hx hb dL_law_626 ?_
      refine lv_lor hx hb dL_law_627 ?_
      refine lv_aload_n hx hb dL_law_628 rfl (lv_at hl 0 rfl) ?_
      refine lv_iload_n hx hb dL_law_629 rfl (lv_at hl 3 rfl) ?_
      refine lv_iconst (v := 3) hx hb dL_law_630 (by decide) ?_
      refine lv_iadd hx hb dL_law_631 ?_
      refine va_sld hx hb hX hbl hbA hS hv3 dL_law_632 ?_
      refine mw_V (As := [.long ((lsl' ((xs (v3 + 1).toNatClampNeg).toInt64) 32) ||| (((xs (v3 + 2).toNatClampNeg).toInt64) &&& 4294967295)), .int (xs (v3 + 3).toNatClampNeg)]) (rest := [.int r_117]) (T := TX10) (N := 25) (n := 2) ⟨hx, hb, hml, hown, hts⟩ (so_X10_feed l G 120 ((lsl' ((xs (v3 + 1).toNatClampNeg).toInt64) 32) ||| (((xs (v3 + 2).toNatClampNeg).toInt64) &&& 4294967295)) (xs (v3 + 3).toNatClampNeg) M_116 _ hw) wm_R_law_62 wi_yX10_feed wv_yX10_feed wn_RX10 wc_yX10_feed (by decide) ⟨Nat.le_of_ble_eq_true rfl, Nat.le_of_ble_eq_true rfl⟩ ⟨rfl, rfl⟩ k120_ (by decide) (mk10 k120_) rfl hSt hTb hP hS rfl hl.1 rfl (Nat.le_of_ble_eq_true rfl) dL_law_633 ⟨hc1, hc2⟩ (fun rr_ M_121 H locs hq hP hS => ?_)
      obtain ⟨r_122, rfl, hw⟩ := hq
      obtain ⟨ceq, hw⟩ := hw
      refine lv_icmp_eq (tgt := 1508) hx hb dL_law_636 (by decide) (fun _ => ?_) (fun cne => absurd ceq cne)
      exact J_1508 v3 M_121 _ _ _ rfl hw hP hS (lv_sub hl [0, 1, 2, 3] rfl)
    by_cases c_124 : ((xs v3.toNatClampNeg) &&& 63) = 11
    · have hw := hw.2.2.2.2.2.2.2.2.2.2.2.1 c_124
      refine mw_tcase (tgt := 641) (off := 608) hx hb dL_law_33 c_124 (by decide) ?_
      refine lv_aload_n hx hb dL_law_641 rfl (lv_at hl 1 rfl) ?_
      refine lv_aload_n hx hb dL_law_642 rfl (lv_at hl 0 rfl) ?_
      refine lv_iload_n hx hb dL_law_643 rfl (lv_at hl 3 rfl) ?_
      refine lv_iconst (v := 1) hx hb dL_law_644 (by decide) ?_
      refine lv_iadd hx hb dL_law_645 ?_
      refine va_sld hx hb hX hbl hbA hS hv1 dL_law_646 ?_
      refine mw_V (As := [.int (xs (v3 + 1).toNatClampNeg)]) (rest := []) (T := TX9) (N := 8) (n := 1) ⟨hx, hb, hml, hown, hts⟩ (so_X9_text l G 0 (xs (v3 + 1).toNatClampNeg) M _ hw) wm_R_law_63 wi_yX9_text wv_yX9_text wn_RX9 wc_yX9_text (by decide) ⟨Nat.le_of_ble_eq_true rfl, Nat.le_of_ble_eq_true rfl⟩ ⟨rfl, rfl⟩ k0_ (by decide) (mk9 k0_) rfl hSt hTb hP hS rfl hl.1 rfl (Nat.le_of_ble_eq_true rfl) dL_law_647 ⟨hc1, hc2⟩ (fun rr_ M_126 H locs hq hP hS => ?_)
      obtain ⟨r_127, rfl, hw⟩ := hq
      refine lv_aload_n hx hb dL_law_650 rfl (lv_at hl 2 rfl) ?_
      refine lv_aload_n hx hb dL_law_651 rfl (lv_at hl 0 rfl) ?_
      refine lv_iload_n hx hb dL_law_652 rfl (lv_at hl 3 rfl) ?_
      refine lv_iconst (v := 1) hx hb dL_law_653 (by decide) ?_
      refine lv_iadd hx hb dL_law_654 ?_
      refine va_sld hx hb hX hbl hbA hS hv1 dL_law_655 ?_
      refine mw_V (As := [.int (xs (v3 + 1).toNatClampNeg)]) (rest := [.int r_127]) (T := TX10) (N := 25) (n := 1) ⟨hx, hb, hml, hown, hts⟩ (so_X10_text l G 120 (xs (v3 + 1).toNatClampNeg) M_126 _ hw) wm_R_law_67 wi_yX10_text wv_yX10_text wn_RX10 wc_yX10_text (by decide) ⟨Nat.le_of_ble_eq_true rfl, Nat.le_of_ble_eq_true rfl⟩ ⟨rfl, rfl⟩ k120_ (by decide) (mk10 k120_) rfl hSt hTb hP hS rfl hl.1 rfl (Nat.le_of_ble_eq_true rfl) dL_law_656 ⟨hc1, hc2⟩ (fun rr_ M_129 H locs hq hP hS => ?_)
      obtain ⟨r_130, rfl, hw⟩ := hq
      obtain ⟨ceq, hw⟩ := hw
      refine lv_icmp_eq (tgt := 1508) hx hb dL_law_659 (by decide) (fun _ => ?_) (fun cne => absurd ceq cne)
      exact J_1508 v3 M_129 _ _ _ rfl hw hP hS (lv_sub hl [0, 1, 2, 3] rfl)
    by_cases c_132 : ((xs v3.toNatClampNeg) &&& 63) = 12
    · have hw := hw.2.2.2.2.2.2.2.2.2.2.2.2.1 c_132
      refine mw_tcase (tgt := 664) (off := 631) hx hb dL_law_33 c_132 (by decide) ?_
      refine lv_aload_n hx hb dL_law_664 rfl (lv_at hl 1 rfl) ?_
      refine lv_aload_n hx hb dL_law_665 rfl (lv_at hl 0 rfl) ?_
      refine lv_iload_n hx hb dL_law_666 rfl (lv_at hl 3 rfl) ?_
      refine lv_iconst (v := 1) hx hb dL_law_667 (by decide) ?_
      refine lv_iadd hx hb dL_law_668 ?_
      refine va_sld hx hb hX hbl hbA hS hv1 dL_law_669 ?_
      refine lv_aload_n hx hb dL_law_670 rfl (lv_at hl 0 rfl) ?_
      refine lv_iload_n hx hb dL_law_671 rfl (lv_at hl 3 rfl) ?_
      refine lv_iconst (v := 2) hx hb dL_law_672 (by decide) ?_
      refine lv_iadd hx hb dL_law_673 ?_
      refine va_sld hx hb hX hbl hbA hS hv2 dL_law_674 ?_
      refine lv_aload_n hx hb dL_law_675 rfl (lv_at hl 0 rfl) ?_
      refine lv_iload_n hx hb dL_law_676 rfl (lv_at hl 3 rfl) ?_
      refine lv_iconst (v := 3) hx hb dL_law_677 (by decide) ?_
      refine lv_iadd hx hb dL_law_678 ?_
      refine va_sld hx hb hX hbl hbA hS hv3 dL_law_679 ?_
      refine lv_aload_n hx hb dL_law_680 rfl (lv_at hl 0 rfl) ?_
      refine lv_iload_n hx hb dL_law_681 rfl (lv_at hl 3 rfl) ?_
      refine lv_iconst (v := 4) hx hb dL_law_682 (by decide) ?_
      refine lv_iadd hx hb dL_law_683 ?_
      refine va_sld hx hb hX hbl hbA hS hv4 dL_law_684 ?_
      refine mw_V (As := [.int (xs (v3 + 1).toNatClampNeg), .int (xs (v3 + 2).toNatClampNeg), .int (xs (v3 + 3).toNatClampNeg), .int (xs (v3 + 4).toNatClampNeg)]) (rest := []) (T := TX9) (N := 8) (n := 4) ⟨hx, hb, hml, hown, hts⟩ (so_X9_law l G 0 (xs (v3 + 1).toNatClampNeg) (xs (v3 + 2).toNatClampNeg) (xs (v3 + 3).toNatClampNeg) (xs (v3 + 4).toNatClampNeg) M _ hw) wm_R_law_68 wi_yX9_law wv_yX9_law wn_RX9 wc_yX9_law (by decide) ⟨Nat.le_of_ble_eq_true rfl, Nat.le_of_ble_eq_true rfl⟩ ⟨rfl, rfl⟩ k0_ (by decide) (mk9 k0_) rfl hSt hTb hP hS rfl hl.1 rfl (Nat.le_of_ble_eq_true rfl) dL_law_685 ⟨hc1, hc2⟩ (fun rr_ M_137 H locs hq hP hS => ?_)
      obtain ⟨r_138, rfl, hw⟩ := hq
      refine lv_aload_n hx hb dL_law_688 rfl (lv_at hl 2 rfl) ?_
      refine lv_aload_n hx hb dL_law_689 rfl (lv_at hl 0 rfl) ?_
      refine lv_iload_n hx hb dL_law_690 rfl (lv_at hl 3 rfl) ?_
      refine lv_iconst (v := 1) hx hb dL_law_691 (by decide) ?_
      refine lv_iadd hx hb dL_law_692 ?_
      refine va_sld hx hb hX hbl hbA hS hv1 dL_law_693 ?_
      refine lv_aload_n hx hb dL_law_694 rfl (lv_at hl 0 rfl) ?_
      refine lv_iload_n hx hb dL_law_695 rfl (lv_at hl 3 rfl) ?_
      refine lv_iconst (v := 2) hx hb dL_law_696 (by decide) ?_
      refine lv_iadd hx hb dL_law_697 ?_
      refine va_sld hx hb hX hbl hbA hS hv2 dL_law_698 ?_
      refine lv_aload_n hx hb dL_law_699 rfl (lv_at hl 0 rfl) ?_
      refine lv_iload_n hx hb dL_law_700 rfl (lv_at hl 3 rfl) ?_
      refine lv_iconst (v := 3) hx hb dL_law_701 (by decide) ?_
      refine lv_iadd hx hb dL_law_702 ?_
      refine va_sld hx hb hX hbl hbA hS hv3 dL_law_703 ?_
      refine lv_aload_n hx hb dL_law_704 rfl (lv_at hl 0 rfl) ?_
      refine lv_iload_n hx hb dL_law_705 rfl (lv_at hl 3 rfl) ?_
      refine lv_iconst (v := 4) hx hb dL_law_706 (by decide) ?_
      refine lv_iadd hx hb dL_law_707 ?_
      refine va_sld hx hb hX hbl hbA hS hv4 dL_law_708 ?_
      refine mw_V (As := [.int (xs (v3 + 1).toNatClampNeg), .int (xs (v3 + 2).toNatClampNeg), .int (xs (v3 + 3).toNatClampNeg), .int (xs (v3 + 4).toNatClampNeg)]) (rest := [.int r_138]) (T := TX10) (N := 25) (n := 4) ⟨hx, hb, hml, hown, hts⟩ (so_X10_law l G 120 (xs (v3 + 1).toNatClampNeg) (xs (v3 + 2).toNatClampNeg) (xs (v3 + 3).toNatClampNeg) (xs (v3 + 4).toNatClampNeg) M_137 _ hw) wm_R_law_71 wi_yX10_law wv_yX10_law wn_RX10 wc_yX10_law (by decide) ⟨Nat.le_of_ble_eq_true rfl, Nat.le_of_ble_eq_true rfl⟩ ⟨rfl, rfl⟩ k120_ (by decide) (mk10 k120_) rfl hSt hTb hP hS rfl hl.1 rfl (Nat.le_of_ble_eq_true rfl) dL_law_709 ⟨hc1, hc2⟩ (fun rr_ M_143 H locs hq hP hS => ?_)
      obtain ⟨r_144, rfl, hw⟩ := hq
      obtain ⟨ceq, hw⟩ := hw
      refine lv_icmp_eq (tgt := 1508) hx hb dL_law_712 (by decide) (fun _ => ?_) (fun cne => absurd ceq cne)
      exact J_1508 v3 M_143 _ _ _ rfl hw hP hS (lv_sub hl [0, 1, 2, 3] rfl)
    by_cases c_146 : ((xs v3.toNatClampNeg) &&& 63) = 13
    · have hw := hw.2.2.2.2.2.2.2.2.2.2.2.2.2.1 c_146
      refine mw_tcase (tgt := 717) (off := 684) hx hb dL_law_33 c_146 (by decide) ?_
      refine lv_aload_n hx hb dL_law_717 rfl (lv_at hl 1 rfl) ?_
      refine lv_aload_n hx hb dL_law_718 rfl (lv_at hl 0 rfl) ?_
      refine lv_iload_n hx hb dL_law_719 rfl (lv_at hl 3 rfl) ?_
      refine lv_iconst (v := 1) hx hb dL_law_720 (by decide) ?_
      refine lv_iadd hx hb dL_law_721 ?_
      refine va_sld hx hb hX hbl hbA hS hv1 dL_law_722 ?_
      refine mw_V (As := [.int (xs (v3 + 1).toNatClampNeg)]) (rest := []) (T := TX9) (N := 8) (n := 1) ⟨hx, hb, hml, hown, hts⟩ (so_X9_hours l G 0 (xs (v3 + 1).toNatClampNeg) M _ hw) wm_R_law_72 wi_yX9_hours wv_yX9_hours wn_RX9 wc_yX9_hours (by decide) ⟨Nat.le_of_ble_eq_true rfl, Nat.le_of_ble_eq_true rfl⟩ ⟨rfl, rfl⟩ k0_ (by decide) (mk9 k0_) rfl hSt hTb hP hS rfl hl.1 rfl (Nat.le_of_ble_eq_true rfl) dL_law_723 ⟨hc1, hc2⟩ (fun rr_ M_148 H locs hq hP hS => ?_)
      obtain ⟨r_149, rfl, hw⟩ := hq
      refine lv_aload_n hx hb dL_law_726 rfl (lv_at hl 2 rfl) ?_
      refine lv_aload_n hx hb dL_law_727 rfl (lv_at hl 0 rfl) ?_
      refine lv_iload_n hx hb dL_law_728 rfl (lv_at hl 3 rfl) ?_
      refine lv_iconst (v := 1) hx hb dL_law_729 (by decide) ?_
      refine lv_iadd hx hb dL_law_730 ?_
      refine va_sld hx hb hX hbl hbA hS hv1 dL_law_731 ?_
      refine mw_V (As := [.int (xs (v3 + 1).toNatClampNeg)]) (rest := [.int r_149]) (T := TX10) (N := 25) (n := 1) ⟨hx, hb, hml, hown, hts⟩ (so_X10_hours l G 120 (xs (v3 + 1).toNatClampNeg) M_148 _ hw) wm_R_law_75 wi_yX10_hours wv_yX10_hours wn_RX10 wc_yX10_hours (by decide) ⟨Nat.le_of_ble_eq_true rfl, Nat.le_of_ble_eq_true rfl⟩ ⟨rfl, rfl⟩ k120_ (by decide) (mk10 k120_) rfl hSt hTb hP hS rfl hl.1 rfl (Nat.le_of_ble_eq_true rfl) dL_law_732 ⟨hc1, hc2⟩ (fun rr_ M_151 H locs hq hP hS => ?_)
      obtain ⟨r_152, rfl, hw⟩ := hq
      obtain ⟨ceq, hw⟩ := hw
      refine lv_icmp_eq (tgt := 1508) hx hb dL_law_735 (by decide) (fun _ => ?_) (fun cne => absurd ceq cne)
      exact J_1508 v3 M_151 _ _ _ rfl hw hP hS (lv_sub hl [0, 1, 2, 3] rfl)
    by_cases c_154 : ((xs v3.toNatClampNeg) &&& 63) = 14
    · have hw := hw.2.2.2.2.2.2.2.2.2.2.2.2.2.2.1 c_154
      refine mw_tcase (tgt := 740) (off := 707) hx hb dL_law_33 c_154 (by decide) ?_
      refine lv_aload_n hx hb dL_law_740 rfl (lv_at hl 1 rfl) ?_
      refine lv_aload_n hx hb dL_law_741 rfl (lv_at hl 0 rfl) ?_
      refine lv_iload_n hx hb dL_law_742 rfl (lv_at hl 3 rfl) ?_
      refine lv_iconst (v := 1) hx hb dL_law_743 (by decide) ?_
      refine lv_iadd hx hb dL_law_744 ?_
      refine va_sld hx hb hX hbl hbA hS hv1 dL_law_745 ?_
      refine mw_V (As := [.int (xs (v3 + 1).toNatClampNeg)]) (rest := []) (T := TX9) (N := 8) (n := 1) ⟨hx, hb, hml, hown, hts⟩ (so_X9_loose l G 0 (xs (v3 + 1).toNatClampNeg) M _ hw) wm_R_law_76 wi_yX9_loose wv_yX9_loose wn_RX9 wc_yX9_loose (by decide) ⟨Nat.le_of_ble_eq_true rfl, Nat.le_of_ble_eq_true rfl⟩ ⟨rfl, rfl⟩ k0_ (by decide) (mk9 k0_) rfl hSt hTb hP hS rfl hl.1 rfl (Nat.le_of_ble_eq_true rfl) dL_law_746 ⟨hc1, hc2⟩ (fun rr_ M_156 H locs hq hP hS => ?_)
      obtain ⟨r_157, rfl, hw⟩ := hq
      refine lv_aload_n hx hb dL_law_749 rfl (lv_at hl 2 rfl) ?_
      refine lv_aload_n hx hb dL_law_750 rfl (lv_at hl 0 rfl) ?_
      refine lv_iload_n hx hb dL_law_751 rfl (lv_at hl 3 rfl) ?_
      refine lv_iconst (v := 1) hx hb dL_law_752 (by decide) ?_
      refine lv_iadd hx hb dL_law_753 ?_
      refine va_sld hx hb hX hbl hbA hS hv1 dL_law_754 ?_
      refine mw_V (As := [.int (xs (v3 + 1).toNatClampNeg)]) (rest := [.int r_157]) (T := TX10) (N := 25) (n := 1) ⟨hx, hb, hml, hown, hts⟩ (so_X10_loose l G 120 (xs (v3 + 1).toNatClampNeg) M_156 _ hw) wm_R_law_79 wi_yX10_loose wv_yX10_loose wn_RX10 wc_yX10_loose (by decide) ⟨Nat.le_of_ble_eq_true rfl, Nat.le_of_ble_eq_true rfl⟩ ⟨rfl, rfl⟩ k120_ (by decide) (mk10 k120_) rfl hSt hTb hP hS rfl hl.1 rfl (Nat.le_of_ble_eq_true rfl) dL_law_755 ⟨hc1, hc2⟩ (fun rr_ M_159 H locs hq hP hS => ?_)
      obtain ⟨r_160, rfl, hw⟩ := hq
      obtain ⟨ceq, hw⟩ := hw
      refine lv_icmp_eq (tgt := 1508) hx hb dL_law_758 (by decide) (fun _ => ?_) (fun cne => absurd ceq cne)
      exact J_1508 v3 M_159 _ _ _ rfl hw hP hS (lv_sub hl [0, 1, 2, 3] rfl)
    by_cases c_162 : ((xs v3.toNatClampNeg) &&& 63) = 15
    · have hw := hw.2.2.2.2.2.2.2.2.2.2.2.2.2.2.2.1 c_162
      refine mw_tcase (tgt := 763) (off := 730) hx hb dL_law_33 c_162 (by decide) ?_
      refine lv_aload_n hx hb dL_law_763 rfl (lv_at hl 1 rfl) ?_
      refine lv_aload_n hx hb dL_law_764 rfl (lv_at hl 0 rfl) ?_
      refine lv_iload_n hx hb dL_law_765 rfl (lv_at hl 3 rfl) ?_
      refine lv_iconst (v := 1) hx hb dL_law_766 (by decide) ?_
      refine lv_iadd hx hb dL_law_767 ?_
      refine va_sld hx hb hX hbl hbA hS hv1 dL_law_768 ?_
      refine lv_aload_n hx hb dL_law_769 rfl (lv_at hl 0 rfl) ?_
      refine lv_iload_n hx hb dL_law_770 rfl (lv_at hl 3 rfl) ?_
      refine lv_iconst (v := 2) hx hb dL_law_771 (by decide) ?_
      refine lv_iadd hx hb dL_law_772 ?_
      refine va_sld hx hb hX hbl hbA hS hv2 dL_law_773 ?_
      refine lv_aload_n hx hb dL_law_774 rfl (lv_at hl 0 rfl) ?_
      refine lv_iload_n hx hb dL_law_775 rfl (lv_at hl 3 rfl) ?_
      refine lv_iconst (v := 3) hx hb dL_law_776 (by decide) ?_
      refine lv_iadd hx hb dL_law_777 ?_
      refine va_sld hx hb hX hbl hbA hS hv3 dL_law_778 ?_
      refine mw_V (As := [.int (xs (v3 + 1).toNatClampNeg), .int (xs (v3 + 2).toNatClampNeg), .int (xs (v3 + 3).toNatClampNeg)]) (rest := []) (T := TX9) (N := 8) (n := 3) ⟨hx, hb, hml, hown, hts⟩ (so_X9_then l G 0 (xs (v3 + 1).toNatClampNeg) (xs (v3 + 2).toNatClampNeg) (xs (v3 + 3).toNatClampNeg) M _ hw) wm_R_law_80 wi_yX9_then wv_yX9_then wn_RX9 wc_yX9_then (by decide) ⟨Nat.le_of_ble_eq_true rfl, Nat.le_of_ble_eq_true rfl⟩ ⟨rfl, rfl⟩ k0_ (by decide) (mk9 k0_) rfl hSt hTb hP hS rfl hl.1 rfl (Nat.le_of_ble_eq_true rfl) dL_law_779 ⟨hc1, hc2⟩ (fun rr_ M_166 H locs hq hP hS => ?_)
      obtain ⟨r_167, rfl, hw⟩ := hq
      refine lv_aload_n hx hb dL_law_782 rfl (lv_at hl 2 rfl) ?_
      refine lv_aload_n hx hb dL_law_783 rfl (lv_at hl 0 rfl) ?_
      refine lv_iload_n hx hb dL_law_784 rfl (lv_at hl 3 rfl) ?_
      refine lv_iconst (v := 1) hx hb dL_law_785 (by decide) ?_
      refine lv_iadd hx hb dL_law_786 ?_
      refine va_sld hx hb hX hbl hbA hS hv1 dL_law_787 ?_
      refine lv_aload_n hx hb dL_law_788 rfl (lv_at hl 0 rfl) ?_
      refine lv_iload_n hx hb dL_law_789 rfl (lv_at hl 3 rfl) ?_
      refine lv_iconst (v := 2) hx hb dL_law_790 (by decide) ?_
      refine lv_iadd hx hb dL_law_791 ?_
      refine va_sld hx hb hX hbl hbA hS hv2 dL_law_792 ?_
      refine lv_aload_n hx hb dL_law_793 rfl (lv_at hl 0 rfl) ?_
      refine lv_iload_n hx hb dL_law_794 rfl (lv_at hl 3 rfl) ?_
      refine lv_iconst (v := 3) hx hb dL_law_795 (by decide) ?_
      refine lv_iadd hx hb dL_law_796 ?_
      refine va_sld hx hb hX hbl hbA hS hv3 dL_law_797 ?_
      refine mw_V (As := [.int (xs (v3 + 1).toNatClampNeg), .int (xs (v3 + 2).toNatClampNeg), .int (xs (v3 + 3).toNatClampNeg)]) (rest := [.int r_167]) (T := TX10) (N := 25) (n := 3) ⟨hx, hb, hml, hown, hts⟩ (so_X10_then l G 120 (xs (v3 + 1).toNatClampNeg) (xs (v3 + 2).toNatClampNeg) (xs (v3 + 3).toNatClampNeg) M_166 _ hw) wm_R_law_83 wi_yX10_then wv_yX10_then wn_RX10 wc_yX10_then (by decide) ⟨Nat.le_of_ble_eq_true rfl, Nat.le_of_ble_eq_true rfl⟩ ⟨rfl, rfl⟩ k120_ (by decide) (mk10 k120_) rfl hSt hTb hP hS rfl hl.1 rfl (Nat.le_of_ble_eq_true rfl) dL_law_798 ⟨hc1, hc2⟩ (fun rr_ M_171 H locs hq hP hS => ?_)
      obtain ⟨r_172, rfl, hw⟩ := hq
      obtain ⟨ceq, hw⟩ := hw
      refine lv_icmp_eq (tgt := 1508) hx hb dL_law_801 (by decide) (fun _ => ?_) (fun cne => absurd ceq cne)
      exact J_1508 v3 M_171 _ _ _ rfl hw hP hS (lv_sub hl [0, 1, 2, 3] rfl)
    by_cases c_174 : ((xs v3.toNatClampNeg) &&& 63) = 16
    · have hw := hw.2.2.2.2.2.2.2.2.2.2.2.2.2.2.2.2.1 c_174
      refine mw_tcase (tgt := 806) (off := 773) hx hb dL_law_33 c_174 (by decide) ?_
      refine lv_aload_n hx hb dL_law_806 rfl (lv_at hl 1 rfl) ?_
      refine lv_aload_n hx hb dL_law_807 rfl (lv_at hl 0 rfl) ?_
      refine lv_iload_n hx hb dL_law_808 rfl (lv_at hl 3 rfl) ?_
      refine lv_iconst (v := 1) hx hb dL_law_809 (by decide) ?_
      refine lv_iadd hx hb dL_law_810 ?_
      refine va_sld hx hb hX hbl hbA hS hv1 dL_law_811 ?_
      refine mw_V (As := [.int (xs (v3 + 1).toNatClampNeg)]) (rest := []) (T := TX9) (N := 8) (n := 1) ⟨hx, hb, hml, hown, hts⟩ (so_X9_when l G 0 (xs (v3 + 1).toNatClampNeg) M _ hw) wm_R_law_84 wi_yX9_when wv_yX9_when wn_RX9 wc_yX9_when (by decide) ⟨Nat.le_of_ble_eq_true rfl, Nat.le_of_ble_eq_true rfl⟩ ⟨rfl, rfl⟩ k0_ (by decide) (mk9 k0_) rfl hSt hTb hP hS rfl hl.1 rfl (Nat.le_of_ble_eq_true rfl) dL_law_812 ⟨hc1, hc2⟩ (fun rr_ M_176 H locs hq hP hS => ?_)
      obtain ⟨r_177, rfl, hw⟩ := hq
      refine lv_aload_n hx hb dL_law_815 rfl (lv_at hl 2 rfl) ?_
      refine lv_aload_n hx hb dL_law_816 rfl (lv_at hl 0 rfl) ?_
      refine lv_iload_n hx hb dL_law_817 rfl (lv_at hl 3 rfl) ?_
      refine lv_iconst (v := 1) hx hb dL_law_818 (by decide) ?_
      refine lv_iadd hx hb dL_law_819 ?_
      refine va_sld hx hb hX hbl hbA hS hv1 dL_law_820 ?_
      refine mw_V (As := [.int (xs (v3 + 1).toNatClampNeg)]) (rest := [.int r_177]) (T := TX10) (N := 25) (n := 1) ⟨hx, hb, hml, hown, hts⟩ (so_X10_when l G 120 (xs (v3 + 1).toNatClampNeg) M_176 _ hw) wm_R_law_87 wi_yX10_when wv_yX10_when wn_RX10 wc_yX10_when (by decide) ⟨Nat.le_of_ble_eq_true rfl, Nat.le_of_ble_eq_true rfl⟩ ⟨rfl, rfl⟩ k120_ (by decide) (mk10 k120_) rfl hSt hTb hP hS rfl hl.1 rfl (Nat.le_of_ble_eq_true rfl) dL_law_821 ⟨hc1, hc2⟩ (fun rr_ M_179 H locs hq hP hS => ?_)
      obtain ⟨r_180, rfl, hw⟩ := hq
      obtain ⟨ceq, hw⟩ := hw
      refine lv_icmp_eq (tgt := 1508) hx hb dL_law_824 (by decide) (fun _ => ?_) (fun cne => absurd ceq cne)
      exact J_1508 v3 M_179 _ _ _ rfl hw hP hS (lv_sub hl [0, 1, 2, 3] rfl)
    by_cases c_182 : ((xs v3.toNatClampNeg) &&& 63) = 17
    · have hw := hw.2.2.2.2.2.2.2.2.2.2.2.2.2.2.2.2.2.1 c_182
      refine mw_tcase (tgt := 829) (off := 796) hx hb dL_law_33 c_182 (by decide) ?_
      refine lv_aload_n hx hb dL_law_829 rfl (lv_at hl 1 rfl) ?_
      refine mw_V (As := []) (rest := []) (T := TX9) (N := 8) (n := 0) ⟨hx, hb, hml, hown, hts⟩ (so_X9_saved l G 0 M _ hw) wm_R_law_88 wi_yX9_saved wv_yX9_saved wn_RX9 wc_yX9_saved (by decide) ⟨Nat.le_of_ble_eq_true rfl, Nat.le_of_ble_eq_true rfl⟩ ⟨rfl, rfl⟩ k0_ (by decide) (mk9 k0_) rfl hSt hTb hP hS rfl hl.1 rfl (Nat.le_of_ble_eq_true rfl) dL_law_830 ⟨hc1, hc2⟩ (fun rr_ M_183 H locs hq hP hS => ?_)
      obtain ⟨r_184, rfl, hw⟩ := hq
      refine lv_aload_n hx hb dL_law_833 rfl (lv_at hl 2 rfl) ?_
      refine mw_V (As := []) (rest := [.int r_184]) (T := TX10) (N := 25) (n := 0) ⟨hx, hb, hml, hown, hts⟩ (so_X10_saved l G 120 M_183 _ hw) wm_R_law_92 wi_yX10_saved wv_yX10_saved wn_RX10 wc_yX10_saved (by decide) ⟨Nat.le_of_ble_eq_true rfl, Nat.le_of_ble_eq_true rfl⟩ ⟨rfl, rfl⟩ k120_ (by decide) (mk10 k120_) rfl hSt hTb hP hS rfl hl.1 rfl (Nat.le_of_ble_eq_true rfl) dL_law_834 ⟨hc1, hc2⟩ (fun rr_ M_185 H locs hq hP hS => ?_)
      obtain ⟨r_186, rfl, hw⟩ := hq
      obtain ⟨ceq, hw⟩ := hw
      refine lv_icmp_eq (tgt := 1508) hx hb dL_law_837 (by decide) (fun _ => ?_) (fun cne => absurd ceq cne)
      exact J_1508 v3 M_185 _ _ _ rfl hw hP hS (lv_sub hl [0, 1, 2, 3] rfl)
    by_cases c_188 : ((xs v3.toNatClampNeg) &&& 63) = 18
    · have hw := hw.2.2.2.2.2.2.2.2.2.2.2.2.2.2.2.2.2.2.1 c_188
      refine mw_tcase (tgt := 842) (off := 809) hx hb dL_law_33 c_188 (by decide) ?_
      refine lv_aload_n hx hb dL_law_842 rfl (lv_at hl 1 rfl) ?_
      refine lv_aload_n hx hb dL_law_843 rfl (lv_at hl 0 rfl) ?_
      refine lv_iload_n hx hb dL_law_844 rfl (lv_at hl 3 rfl) ?_
      refine lv_iconst (v := 1) hx hb dL_law_845 (by decide) ?_
      refine lv_iadd hx hb dL_law_846 ?_
      refine va_sld hx hb hX hbl hbA hS hv1 dL_law_847 ?_
      refine lv_aload_n hx hb dL_law_848 rfl (lv_at hl 0 rfl) ?_
      refine lv_iload_n hx hb dL_law_849 rfl (lv_at hl 3 rfl) ?_
      refine lv_iconst (v := 2) hx hb dL_law_850 (by decide) ?_
      refine lv_iadd hx hb dL_law_851 ?_
      refine va_sld hx hb hX hbl hbA hS hv2 dL_law_852 ?_
      refine mw_V (As := [.int (xs (v3 + 1).toNatClampNeg), .int (xs (v3 + 2).toNatClampNeg)]) (rest := []) (T := TX9) (N := 8) (n := 2) ⟨hx, hb, hml, hown, hts⟩ (so_X9_add l G 0 (xs (v3 + 1).toNatClampNeg) (xs (v3 + 2).toNatClampNeg) M _ hw) wm_R_law_93 wi_yX9_add wv_yX9_add wn_RX9 wc_yX9_add (by decide) ⟨Nat.le_of_ble_eq_true rfl, Nat.le_of_ble_eq_true rfl⟩ ⟨rfl, rfl⟩ k0_ (by decide) (mk9 k0_) rfl hSt hTb hP hS rfl hl.1 rfl (Nat.le_of_ble_eq_true rfl) dL_law_853 ⟨hc1, hc2⟩ (fun rr_ M_191 H locs hq hP hS => ?_)
      obtain ⟨r_192, rfl, hw⟩ := hq
      refine lv_aload_n hx hb dL_law_856 rfl (lv_at hl 2 rfl) ?_
      refine lv_aload_n hx hb dL_law_857 rfl (lv_at hl 0 rfl) ?_
      refine lv_iload_n hx hb dL_law_858 rfl (lv_at hl 3 rfl) ?_
      refine lv_iconst (v := 1) hx hb dL_law_859 (by decide) ?_
      refine lv_iadd hx hb dL_law_860 ?_
      refine va_sld hx hb hX hbl hbA hS hv1 dL_law_861 ?_
      refine lv_aload_n hx hb dL_law_862 rfl (lv_at hl 0 rfl) ?_
      refine lv_iload_n hx hb dL_law_863 rfl (lv_at hl 3 rfl) ?_
      refine lv_iconst (v := 2) hx hb dL_law_864 (by decide) ?_
      refine lv_iadd hx hb dL_law_865 ?_
      refine va_sld hx hb hX hbl hbA hS hv2 dL_law_866 ?_
      refine mw_V (As := [.int (xs (v3 + 1).toNatClampNeg), .int (xs (v3 + 2).toNatClampNeg)]) (rest := [.int r_192]) (T := TX10) (N := 25) (n := 2) ⟨hx, hb, hml, hown, hts⟩ (so_X10_add l G 120 (xs (v3 + 1).toNatClampNeg) (xs (v3 + 2).toNatClampNeg) M_191 _ hw) wm_R_law_96 wi_yX10_add wv_yX10_add wn_RX10 wc_yX10_add (by decide) ⟨Nat.le_of_ble_eq_true rfl, Nat.le_of_ble_eq_true rfl⟩ ⟨rfl, rfl⟩ k120_ (by decide) (mk10 k120_) rfl hSt hTb hP hS rfl hl.1 rfl (Nat.le_of_ble_eq_true rfl) dL_law_867 ⟨hc1, hc2⟩ (fun rr_ M_195 H locs hq hP hS => ?_)
      obtain ⟨r_196, rfl, hw⟩ := hq
      obtain ⟨ceq, hw⟩ := hw
      refine lv_icmp_eq (tgt := 1508) hx hb dL_law_870 (by decide) (fun _ => ?_) (fun cne => absurd ceq cne)
      exact J_1508 v3 M_195 _ _ _ rfl hw hP hS (lv_sub hl [0, 1, 2, 3] rfl)
    by_cases c_198 : ((xs v3.toNatClampNeg) &&& 63) = 19
    · have hw := hw.2.2.2.2.2.2.2.2.2.2.2.2.2.2.2.2.2.2.2.1 c_198
      refine mw_tcase (tgt := 875) (off := 842) hx hb dL_law_33 c_198 (by decide) ?_
      refine lv_aload_n hx hb dL_law_875 rfl (lv_at hl 1 rfl) ?_
      refine lv_aload_n hx hb dL_law_876 rfl (lv_at hl 0 rfl) ?_
      refine lv_iload_n hx hb dL_law_877 rfl (lv_at hl 3 rfl) ?_
      refine lv_iconst (v := 1) hx hb dL_law_878 (by decide) ?_
      refine lv_iadd hx hb dL_law_879 ?_
      refine va_sld hx hb hX hbl hbA hS hv1 dL_law_880 ?_
      refine lv_aload_n hx hb dL_law_881 rfl (lv_at hl 0 rfl) ?_
      refine lv_iload_n hx hb dL_law_882 rfl (lv_at hl 3 rfl) ?_
      refine lv_iconst (v := 2) hx hb dL_law_883 (by decide) ?_
      refine lv_iadd hx hb dL_law_884 ?_
      refine va_sld hx hb hX hbl hbA hS hv2 dL_law_885 ?_
      refine lv_aload_n hx hb dL_law_886 rfl (lv_at hl 0 rfl) ?_
      refine lv_iload_n hx hb dL_law_887 rfl (lv_at hl 3 rfl) ?_
      refine lv_iconst (v := 3) hx hb dL_law_888 (by decide) ?_
      refine lv_iadd hx hb dL_law_889 ?_
      refine va_sld hx hb hX hbl hbA hS hv3 dL_law_890 ?_
      refine mw_V (As := [.int (xs (v3 + 1).toNatClampNeg), .int (xs (v3 + 2).toNatClampNeg), .int (xs (v3 + 3).toNatClampNeg)]) (rest := []) (T := TX9) (N := 8) (n := 3) ⟨hx, hb, hml, hown, hts⟩ (so_X9_start l G 0 (xs (v3 + 1).toNatClampNeg) (xs (v3 + 2).toNatClampNeg) (xs (v3 + 3).toNatClampNeg) M _ hw) wm_R_law_97 wi_yX9_start wv_yX9_start wn_RX9 wc_yX9_start (by decide) ⟨Nat.le_of_ble_eq_true rfl, Nat.le_of_ble_eq_true rfl⟩ ⟨rfl, rfl⟩ k0_ (by decide) (mk9 k0_) rfl hSt hTb hP hS rfl hl.1 rfl (Nat.le_of_ble_eq_true rfl) dL_law_891 ⟨hc1, hc2⟩ (fun rr_ M_202 H locs hq hP hS => ?_)
      obtain ⟨r_203, rfl, hw⟩ := hq
      refine lv_aload_n hx hb dL_law_894 rfl (lv_at hl 2 rfl) ?_
      refine lv_aload_n hx hb dL_law_895 rfl (lv_at hl 0 rfl) ?_
      refine lv_iload_n hx hb dL_law_896 rfl (lv_at hl 3 rfl) ?_
      refine lv_iconst (v := 1) hx hb dL_law_897 (by decide) ?_
      refine lv_iadd hx hb dL_law_898 ?_
      refine va_sld hx hb hX hbl hbA hS hv1 dL_law_899 ?_
      refine lv_aload_n hx hb dL_law_900 rfl (lv_at hl 0 rfl) ?_
      refine lv_iload_n hx hb dL_law_901 rfl (lv_at hl 3 rfl) ?_
      refine lv_iconst (v := 2) hx hb dL_law_902 (by decide) ?_
      refine lv_iadd hx hb dL_law_903 ?_
      refine va_sld hx hb hX hbl hbA hS hv2 dL_law_904 ?_
      refine lv_aload_n hx hb dL_law_905 rfl (lv_at hl 0 rfl) ?_
      refine lv_iload_n hx hb dL_law_906 rfl (lv_at hl 3 rfl) ?_
      refine lv_iconst (v := 3) hx hb dL_law_907 (by decide) ?_
      refine lv_iadd hx hb dL_law_908 ?_
      refine va_sld hx hb hX hbl hbA hS hv3 dL_law_909 ?_
      refine mw_V (As := [.int (xs (v3 + 1).toNatClampNeg), .int (xs (v3 + 2).toNatClampNeg), .int (xs (v3 + 3).toNatClampNeg)]) (rest := [.int r_203]) (T := TX10) (N := 25) (n := 3) ⟨hx, hb, hml, hown, hts⟩ (so_X10_start l G 120 (xs (v3 + 1).toNatClampNeg) (xs (v3 + 2).toNatClampNeg) (xs (v3 + 3).toNatClampNeg) M_202 _ hw) wm_R_law_100 wi_yX10_start wv_yX10_start wn_RX10 wc_yX10_start (by decide) ⟨Nat.le_of_ble_eq_true rfl, Nat.le_of_ble_eq_true rfl⟩ ⟨rfl, rfl⟩ k120_ (by decide) (mk10 k120_) rfl hSt hTb hP hS rfl hl.1 rfl (Nat.le_of_ble_eq_true rfl) dL_law_910 ⟨hc1, hc2⟩ (fun rr_ M_207 H locs hq hP hS => ?_)
      obtain ⟨r_208, rfl, hw⟩ := hq
      obtain ⟨ceq, hw⟩ := hw
      refine lv_icmp_eq (tgt := 1508) hx hb dL_law_913 (by decide) (fun _ => ?_) (fun cne => absurd ceq cne)
      exact J_1508 v3 M_207 _ _ _ rfl hw hP hS (lv_sub hl [0, 1, 2, 3] rfl)
    by_cases c_210 : ((xs v3.toNatClampNeg) &&& 63) = 20
    · have hw := hw.2.2.2.2.2.2.2.2.2.2.2.2.2.2.2.2.2.2.2.2.1 c_210
      refine mw_tcase (tgt := 918) (off := 885) hx hb dL_law_33 c_210 (by decide) ?_
      refine lv_aload_n hx hb dL_law_918 rfl (lv_at hl 1 rfl) ?_
      refine lv_aload_n hx hb dL_law_919 rfl (lv_at hl 0 rfl) ?_
      refine lv_iload_n hx hb dL_law_920 rfl (lv_at hl 3 rfl) ?_
      refine lv_iconst (v := 1) hx hb dL_law_921 (by decide) ?_
      refine lv_iadd hx hb dL_law_922 ?_
      refine va_sld hx hb hX hbl hbA hS hv1 dL_law_923 ?_
      refine lv_aload_n hx hb dL_law_924 rfl (lv_at hl 0 rfl) ?_
      refine lv_iload_n hx hb dL_law_925 rfl (lv_at hl 3 rfl) ?_
      refine lv_iconst (v := 2) hx hb dL_law_926 (by decide) ?_
      refine lv_iadd hx hb dL_law_927 ?_
      refine va_sld hx hb hX hbl hbA hS hv2 dL_law_928 ?_
      refine mw_V (As := [.int (xs (v3 + 1).toNatClampNeg), .int (xs (v3 + 2).toNatClampNeg)]) (rest := []) (T := TX9) (N := 8) (n := 2) ⟨hx, hb, hml, hown, hts⟩ (so_X9_missed l G 0 (xs (v3 + 1).toNatClampNeg) (xs (v3 + 2).toNatClampNeg) M _ hw) wm_R_law_101 wi_yX9_missed wv_yX9_missed wn_RX9 wc_yX9_missed (by decide) ⟨Nat.le_of_ble_eq_true rfl, Nat.le_of_ble_eq_true rfl⟩ ⟨rfl, rfl⟩ k0_ (by decide) (mk9 k0_) rfl hSt hTb hP hS rfl hl.1 rfl (Nat.le_of_ble_eq_true rfl) dL_law_929 ⟨hc1, hc2⟩ (fun rr_ M_213 H locs hq hP hS => ?_)
      obtain ⟨r_214, rfl, hw⟩ := hq
      refine lv_aload_n hx hb dL_law_932 rfl (lv_at hl 2 rfl) ?_
      refine lv_aload_n hx hb dL_law_933 rfl (lv_at hl 0 rfl) ?_
      refine lv_iload_n hx hb dL_law_934 rfl (lv_at hl 3 rfl) ?_
      refine lv_iconst (v := 1) hx hb dL_law_935 (by decide) ?_
      refine lv_iadd hx hb dL_law_936 ?_
      refine va_sld hx hb hX hbl hbA hS hv1 dL_law_937 ?_
      refine lv_aload_n hx hb dL_law_938 rfl (lv_at hl 0 rfl) ?_
      refine lv_iload_n hx hb dL_law_939 rfl (lv_at hl 3 rfl) ?_
      refine lv_iconst (v := 2) hx hb dL_law_940 (by decide) ?_
      refine lv_iadd hx hb dL_law_941 ?_
      refine va_sld hx hb hX hbl hbA hS hv2 dL_law_942 ?_
      refine mw_V (As := [.int (xs (v3 + 1).toNatClampNeg), .int (xs (v3 + 2).toNatClampNeg)]) (rest := [.int r_214]) (T := TX10) (N := 25) (n := 2) ⟨hx, hb, hml, hown, hts⟩ (so_X10_missed l G 120 (xs (v3 + 1).toNatClampNeg) (xs (v3 + 2).toNatClampNeg) M_213 _ hw) wm_R_law_104 wi_yX10_missed wv_yX10_missed wn_RX10 wc_yX10_missed (by decide) ⟨Nat.le_of_ble_eq_true rfl, Nat.le_of_ble_eq_true rfl⟩ ⟨rfl, rfl⟩ k120_ (by decide) (mk10 k120_) rfl hSt hTb hP hS rfl hl.1 rfl (Nat.le_of_ble_eq_true rfl) dL_law_943 ⟨hc1, hc2⟩ (fun rr_ M_217 H locs hq hP hS => ?_)
      obtain ⟨r_218, rfl, hw⟩ := hq
      obtain ⟨ceq, hw⟩ := hw
      refine lv_icmp_eq (tgt := 1508) hx hb dL_law_946 (by decide) (fun _ => ?_) (fun cne => absurd ceq cne)
      exact J_1508 v3 M_217 _ _ _ rfl hw hP hS (lv_sub hl [0, 1, 2, 3] rfl)
    by_cases c_220 : ((xs v3.toNatClampNeg) &&& 63) = 21
    · have hw := hw.2.2.2.2.2.2.2.2.2.2.2.2.2.2.2.2.2.2.2.2.2.1 c_220
      refine mw_tcase (tgt := 951) (off := 918) hx hb dL_law_33 c_220 (by decide) ?_
      refine lv_aload_n hx hb dL_law_951 rfl (lv_at hl 1 rfl) ?_
      refine mw_V (As := []) (rest := []) (T := TX9) (N := 8) (n := 0) ⟨hx, hb, hml, hown, hts⟩ (so_X9_nobody l G 0 M _ hw) wm_R_law_105 wi_yX9_nobody wv_yX9_nobody wn_RX9 wc_yX9_nobody (by decide) ⟨Nat.le_of_ble_eq_true rfl, Nat.le_of_ble_eq_true rfl⟩ ⟨rfl, rfl⟩ k0_ (by decide) (mk9 k0_) rfl hSt hTb hP hS rfl hl.1 rfl (Nat.le_of_ble_eq_true rfl) dL_law_952 ⟨hc1, hc2⟩ (fun rr_ M_221 H locs hq hP hS => ?_)
      obtain ⟨r_222, rfl, hw⟩ := hq
      refine lv_aload_n hx hb dL_law_955 rfl (lv_at hl 2 rfl) ?_
      refine mw_V (As := []) (rest := [.int r_222]) (T := TX10) (N := 25) (n := 0) ⟨hx, hb, hml, hown, hts⟩ (so_X10_nobody l G 120 M_221 _ hw) wm_R_law_108 wi_yX10_nobody wv_yX10_nobody wn_RX10 wc_yX10_nobody (by decide) ⟨Nat.le_of_ble_eq_true rfl, Nat.le_of_ble_eq_true rfl⟩ ⟨rfl, rfl⟩ k120_ (by decide) (mk10 k120_) rfl hSt hTb hP hS rfl hl.1 rfl (Nat.le_of_ble_eq_true rfl) dL_law_956 ⟨hc1, hc2⟩ (fun rr_ M_223 H locs hq hP hS => ?_)
      obtain ⟨r_224, rfl, hw⟩ := hq
      obtain ⟨ceq, hw⟩ := hw
      refine lv_icmp_eq (tgt := 1508) hx hb dL_law_959 (by decide) (fun _ => ?_) (fun cne => absurd ceq cne)
      exact J_1508 v3 M_223 _ _ _ rfl hw hP hS (lv_sub hl [0, 1, 2, 3] rfl)
    by_cases c_226 : ((xs v3.toNatClampNeg) &&& 63) = 22
    · have hw := hw.2.2.2.2.2.2.2.2.2.2.2.2.2.2.2.2.2.2.2.2.2.2.1 c_226
      refine mw_tcase (tgt := 964) (off := 931) hx hb dL_law_33 c_226 (by decide) ?_
      refine lv_aload_n hx hb dL_law_964 rfl (lv_at hl 1 rfl) ?_
      refine lv_aload_n hx hb dL_law_965 rfl (lv_at hl 0 rfl) ?_
      refine lv_iload_n hx hb dL_law_966 rfl (lv_at hl 3 rfl) ?_
      refine lv_iconst (v := 1) hx hb dL_law_967 (by decide) ?_
      refine lv_iadd hx hb dL_law_968 ?_
      refine va_sld hx hb hX hbl hbA hS hv1 dL_law_969 ?_
      refine lv_aload_n hx hb dL_law_970 rfl (lv_at hl 0 rfl) ?_
      refine lv_iload_n hx hb dL_law_971 rfl (lv_at hl 3 rfl) ?_
      refine lv_iconst (v := 2) hx hb dL_law_972 (by decide) ?_
      refine lv_iadd hx hb dL_law_973 ?_
      refine va_sld hx hb hX hbl hbA hS hv2 dL_law_974 ?_
      refine lv_aload_n hx hb dL_law_975 rfl (lv_at hl 0 rfl) ?_
      refine lv_iload_n hx hb dL_law_976 rfl (lv_at hl 3 rfl) ?_
      refine lv_iconst (v := 3) hx hb dL_law_977 (by decide) ?_
      refine lv_iadd hx hb dL_law_978 ?_
      refine va_sld hx hb hX hbl hbA hS hv3 dL_law_979 ?_
      refine mw_V (As := [.int (xs (v3 + 1).toNatClampNeg), .int (xs (v3 + 2).toNatClampNeg), .int (xs (v3 + 3).toNatClampNeg)]) (rest := []) (T := TX9) (N := 8) (n := 3) ⟨hx, hb, hml, hown, hts⟩ (so_X9_lies l G 0 (xs (v3 + 1).toNatClampNeg) (xs (v3 + 2).toNatClampNeg) (xs (v3 + 3).toNatClampNeg) M _ hw) wm_R_law_109 wi_yX9_lies wv_yX9_lies wn_RX9 wc_yX9_lies (by decide) ⟨Nat.le_of_ble_eq_true rfl, Nat.le_of_ble_eq_true rfl⟩ ⟨rfl, rfl⟩ k0_ (by decide) (mk9 k0_) rfl hSt hTb hP hS rfl hl.1 rfl (Nat.le_of_ble_eq_true rfl) dL_law_980 ⟨hc1, hc2⟩ (fun rr_ M_230 H locs hq hP hS => ?_)
      obtain ⟨r_231, rfl, hw⟩ := hq
      refine lv_aload_n hx hb dL_law_983 rfl (lv_at hl 2 rfl) ?_
      refine lv_aload_n hx hb dL_law_984 rfl (lv_at hl 0 rfl) ?_
      refine lv_iload_n hx hb dL_law_985 rfl (lv_at hl 3 rfl) ?_
      refine lv_iconst (v := 1) hx hb dL_law_986 (by decide) ?_
      refine lv_iadd hx hb dL_law_987 ?_
      refine va_sld hx hb hX hbl hbA hS hv1 dL_law_988 ?_
      refine lv_aload_n hx hb dL_law_989 rfl (lv_at hl 0 rfl) ?_
      refine lv_iload_n hx hb dL_law_990 rfl (lv_at hl 3 rfl) ?_
      refine lv_iconst (v := 2) hx hb dL_law_991 (by decide) ?_
      refine lv_iadd hx hb dL_law_992 ?_
      refine va_sld hx hb hX hbl hbA hS hv2 dL_law_993 ?_
      refine lv_aload_n hx hb dL_law_994 rfl (lv_at hl 0 rfl) ?_
      refine lv_iload_n hx hb dL_law_995 rfl (lv_at hl 3 rfl) ?_
      refine lv_iconst (v := 3) hx hb dL_law_996 (by decide) ?_
      refine lv_iadd hx hb dL_law_997 ?_
      refine va_sld hx hb hX hbl hbA hS hv3 dL_law_998 ?_
      refine mw_V (As := [.int (xs (v3 + 1).toNatClampNeg), .int (xs (v3 + 2).toNatClampNeg), .int (xs (v3 + 3).toNatClampNeg)]) (rest := [.int r_231]) (T := TX10) (N := 25) (n := 3) ⟨hx, hb, hml, hown, hts⟩ (so_X10_lies l G 120 (xs (v3 + 1).toNatClampNeg) (xs (v3 + 2).toNatClampNeg) (xs (v3 + 3).toNatClampNeg) M_230 _ hw) wm_R_law_112 wi_yX10_lies wv_yX10_lies wn_RX10 wc_yX10_lies (by decide) ⟨Nat.le_of_ble_eq_true rfl, Nat.le_of_ble_eq_true rfl⟩ ⟨rfl, rfl⟩ k120_ (by decide) (mk10 k120_) rfl hSt hTb hP hS rfl hl.1 rfl (Nat.le_of_ble_eq_true rfl) dL_law_999 ⟨hc1, hc2⟩ (fun rr_ M_235 H locs hq hP hS => ?_)
      obtain ⟨r_236, rfl, hw⟩ := hq
      obtain ⟨ceq, hw⟩ := hw
      refine lv_icmp_eq (tgt := 1508) hx hb dL_law_1002 (by decide) (fun _ => ?_) (fun cne => absurd ceq cne)
      exact J_1508 v3 M_235 _ _ _ rfl hw hP hS (lv_sub hl [0, 1, 2, 3] rfl)
    by_cases c_238 : ((xs v3.toNatClampNeg) &&& 63) = 23
    · have hw := hw.2.2.2.2.2.2.2.2.2.2.2.2.2.2.2.2.2.2.2.2.2.2.2.1 c_238
      refine mw_tcase (tgt := 1007) (off := 974) hx hb dL_law_33 c_238 (by decide) ?_
      refine lv_aload_n hx hb dL_law_1007 rfl (lv_at hl 1 rfl) ?_
      refine lv_aload_n hx hb dL_law_1008 rfl (lv_at hl 0 rfl) ?_
      refine lv_iload_n hx hb dL_law_1009 rfl (lv_at hl 3 rfl) ?_
      refine lv_iconst (v := 1) hx hb dL_law_1010 (by decide) ?_
      refine lv_iadd hx hb dL_law_1011 ?_
      refine va_sld hx hb hX hbl hbA hS hv1 dL_law_1012 ?_
      refine mw_V (As := [.int (xs (v3 + 1).toNatClampNeg)]) (rest := []) (T := TX9) (N := 8) (n := 1) ⟨hx, hb, hml, hown, hts⟩ (so_X9_order l G 0 (xs (v3 + 1).toNatClampNeg) M _ hw) wm_R_law_113 wi_yX9_order wv_yX9_order wn_RX9 wc_yX9_order (by decide) ⟨Nat.le_of_ble_eq_true rfl, Nat.le_of_ble_eq_true rfl⟩ ⟨rfl, rfl⟩ k0_ (by decide) (mk9 k0_) rfl hSt hTb hP hS rfl hl.1 rfl (Nat.le_of_ble_eq_true rfl) dL_law_1013 ⟨hc1, hc2⟩ (fun rr_ M_240 H locs hq hP hS => ?_)
      obtain ⟨r_241, rfl, hw⟩ := hq
      refine lv_aload_n hx hb dL_law_1016 rfl (lv_at hl 2 rfl) ?_
      refine lv_aload_n hx hb dL_law_1017 rfl (lv_at hl 0 rfl) ?_
      refine lv_iload_n hx hb dL_law_1018 rfl (lv_at hl 3 rfl) ?_
      refine lv_iconst (v := 1) hx hb dL_law_1019 (by decide) ?_
      refine lv_iadd hx hb dL_law_1020 ?_
      refine va_sld hx hb hX hbl hbA hS hv1 dL_law_1021 ?_
      refine mw_V (As := [.int (xs (v3 + 1).toNatClampNeg)]) (rest := [.int r_241]) (T := TX10) (N := 25) (n := 1) ⟨hx, hb, hml, hown, hts⟩ (so_X10_order l G 120 (xs (v3 + 1).toNatClampNeg) M_240 _ hw) wm_R_law_116 wi_yX10_order wv_yX10_order wn_RX10 wc_yX10_order (by decide) ⟨Nat.le_of_ble_eq_true rfl, Nat.le_of_ble_eq_true rfl⟩ ⟨rfl, rfl⟩ k120_ (by decide) (mk10 k120_) rfl hSt hTb hP hS rfl hl.1 rfl (Nat.le_of_ble_eq_true rfl) dL_law_1022 ⟨hc1, hc2⟩ (fun rr_ M_243 H locs hq hP hS => ?_)
      obtain ⟨r_244, rfl, hw⟩ := hq
      obtain ⟨ceq, hw⟩ := hw
      refine lv_icmp_eq (tgt := 1508) hx hb dL_law_1025 (by decide) (fun _ => ?_) (fun cne => absurd ceq cne)
      exact J_1508 v3 M_243 _ _ _ rfl hw hP hS (lv_sub hl [0, 1, 2, 3] rfl)
    by_cases c_246 : ((xs v3.toNatClampNeg) &&& 63) = 24
    · have hw := hw.2.2.2.2.2.2.2.2.2.2.2.2.2.2.2.2.2.2.2.2.2.2.2.2.1 c_246
      refine mw_tcase (tgt := 1030) (off := 997) hx hb dL_law_33 c_246 (by decide) ?_
      refine lv_aload_n hx hb dL_law_1030 rfl (lv_at hl 1 rfl) ?_
      refine lv_aload_n hx hb dL_law_1031 rfl (lv_at hl 0 rfl) ?_
      refine lv_iload_n hx hb dL_law_1032 rfl (lv_at hl 3 rfl) ?_
      refine lv_iconst (v := 1) hx hb dL_law_1033 (by decide) ?_
      refine lv_iadd hx hb dL_law_1034 ?_
      refine va_sld hx hb hX hbl hbA hS hv1 dL_law_1035 ?_
      refine lv_aload_n hx hb dL_law_1036 rfl (lv_at hl 0 rfl) ?_
      refine lv_iload_n hx hb dL_law_1037 rfl (lv_at hl 3 rfl) ?_
      refine lv_iconst (v := 2) hx hb dL_law_1038 (by decide) ?_
      refine lv_iadd hx hb dL_law_1039 ?_
      refine va_sld hx hb hX hbl hbA hS hv2 dL_law_1040 ?_
      refine lv_aload_n hx hb dL_law_1041 rfl (lv_at hl 0 rfl) ?_
      refine lv_iload_n hx hb dL_law_1042 rfl (lv_at hl 3 rfl) ?_
      refine lv_iconst (v := 3) hx hb dL_law_1043 (by decide) ?_
      refine lv_iadd hx hb dL_law_1044 ?_
      refine va_sld hx hb hX hbl hbA hS hv3 dL_law_1045 ?_
      refine mw_V (As := [.int (xs (v3 + 1).toNatClampNeg), .int (xs (v3 + 2).toNatClampNeg), .int (xs (v3 + 3).toNatClampNeg)]) (rest := []) (T := TX9) (N := 8) (n := 3) ⟨hx, hb, hml, hown, hts⟩ (so_X9_strong l G 0 (xs (v3 + 1).toNatClampNeg) (xs (v3 + 2).toNatClampNeg) (xs (v3 + 3).toNatClampNeg) M _ hw) wm_R_law_117 wi_yX9_strong wv_yX9_strong wn_RX9 wc_yX9_strong (by decide) ⟨Nat.le_of_ble_eq_true rfl, Nat.le_of_ble_eq_true rfl⟩ ⟨rfl, rfl⟩ k0_ (by decide) (mk9 k0_) rfl hSt hTb hP hS rfl hl.1 rfl (Nat.le_of_ble_eq_true rfl) dL_law_1046 ⟨hc1, hc2⟩ (fun rr_ M_250 H locs hq hP hS => ?_)
      obtain ⟨r_251, rfl, hw⟩ := hq
      refine lv_aload_n hx hb dL_law_1049 rfl (lv_at hl 2 rfl) ?_
      refine lv_aload_n hx hb dL_law_1050 rfl (lv_at hl 0 rfl) ?_
      refine lv_iload_n hx hb dL_law_1051 rfl (lv_at hl 3 rfl) ?_
      refine lv_iconst (v := 1) hx hb dL_law_1052 (by decide) ?_
      refine lv_iadd hx hb dL_law_1053 ?_
      refine va_sld hx hb hX hbl hbA hS hv1 dL_law_1054 ?_
      refine lv_aload_n hx hb dL_law_1055 rfl (lv_at hl 0 rfl) ?_
      refine lv_iload_n hx hb dL_law_1056 rfl (lv_at hl 3 rfl) ?_
      refine lv_iconst (v := 2) hx hb dL_law_1057 (by decide) ?_
      refine lv_iadd hx hb dL_law_1058 ?_
      refine va_sld hx hb hX hbl hbA hS hv2 dL_law_1059 ?_
      refine lv_aload_n hx hb dL_law_1060 rfl (lv_at hl 0 rfl) ?_
      refine lv_iload_n hx hb dL_law_1061 rfl (lv_at hl 3 rfl) ?_
      refine lv_iconst (v := 3) hx hb dL_law_1062 (by decide) ?_
      refine lv_iadd hx hb dL_law_1063 ?_
      refine va_sld hx hb hX hbl hbA hS hv3 dL_law_1064 ?_
      refine mw_V (As := [.int (xs (v3 + 1).toNatClampNeg), .int (xs (v3 + 2).toNatClampNeg), .int (xs (v3 + 3).toNatClampNeg)]) (rest := [.int r_251]) (T := TX10) (N := 25) (n := 3) ⟨hx, hb, hml, hown, hts⟩ (so_X10_strong l G 120 (xs (v3 + 1).toNatClampNeg) (xs (v3 + 2).toNatClampNeg) (xs (v3 + 3).toNatClampNeg) M_250 _ hw) wm_R_law_120 wi_yX10_strong wv_yX10_strong wn_RX10 wc_yX10_strong (by decide) ⟨Nat.le_of_ble_eq_true rfl, Nat.le_of_ble_eq_true rfl⟩ ⟨rfl, rfl⟩ k120_ (by decide) (mk10 k120_) rfl hSt hTb hP hS rfl hl.1 rfl (Nat.le_of_ble_eq_true rfl) dL_law_1065 ⟨hc1, hc2⟩ (fun rr_ M_255 H locs hq hP hS => ?_)
      obtain ⟨r_256, rfl, hw⟩ := hq
      obtain ⟨ceq, hw⟩ := hw
      refine lv_icmp_eq (tgt := 1508) hx hb dL_law_1068 (by decide) (fun _ => ?_) (fun cne => absurd ceq cne)
      exact J_1508 v3 M_255 _ _ _ rfl hw hP hS (lv_sub hl [0, 1, 2, 3] rfl)
    by_cases c_258 : ((xs v3.toNatClampNeg) &&& 63) = 25
    · have hw := hw.2.2.2.2.2.2.2.2.2.2.2.2.2.2.2.2.2.2.2.2.2.2.2.2.2.1 c_258
      refine mw_tcase (tgt := 1073) (off := 1040) hx hb dL_law_33 c_258 (by decide) ?_
      refine lv_aload_n hx hb dL_law_1073 rfl (lv_at hl 1 rfl) ?_
      refine lv_aload_n hx hb dL_law_1074 rfl (lv_at hl 0 rfl) ?_
      refine lv_iload_n hx hb dL_law_1075 rfl (lv_at hl 3 rfl) ?_
      refine lv_iconst (v := 1) hx hb dL_law_1076 (by decide) ?_
      refine lv_iadd hx hb dL_law_1077 ?_
      refine va_sld hx hb hX hbl hbA hS hv1 dL_law_1078 ?_
      refine lv_aload_n hx hb dL_law_1079 rfl (lv_at hl 0 rfl) ?_
      refine lv_iload_n hx hb dL_law_1080 rfl (lv_at hl 3 rfl) ?_
      refine lv_iconst (v := 2) hx hb dL_law_1081 (by decide) ?_
      refine lv_iadd hx hb dL_law_1082 ?_
      refine va_sld hx hb hX hbl hbA hS hv2 dL_law_1083 ?_
      refine lv_aload_n hx hb dL_law_1084 rfl (lv_at hl 0 rfl) ?_
      refine lv_iload_n hx hb dL_law_1085 rfl (lv_at hl 3 rfl) ?_
      refine lv_iconst (v := 3) hx hb dL_law_1086 (by decide) ?_
      refine lv_iadd hx hb dL_law_1087 ?_
      refine va_sld hx hb hX hbl hbA hS hv3 dL_law_1088 ?_
      refine mw_V (As := [.int (xs (v3 + 1).toNatClampNeg), .int (xs (v3 + 2).toNatClampNeg), .int (xs (v3 + 3).toNatClampNeg)]) (rest := []) (T := TX9) (N := 8) (n := 3) ⟨hx, hb, hml, hown, hts⟩ (so_X9_odds l G 0 (xs (v3 + 1).toNatClampNeg) (xs (v3 + 2).toNatClampNeg) (xs (v3 + 3).toNatClampNeg) M _ hw) wm_R_law_121 wi_yX9_odds wv_yX9_odds wn_RX9 wc_yX9_odds (by decide) ⟨Nat.le_of_ble_eq_true rfl, Nat.le_of_ble_eq_true rfl⟩ ⟨rfl, rfl⟩ k0_ (by decide) (mk9 k0_) rfl hSt hTb hP hS rfl hl.1 rfl (Nat.le_of_ble_eq_true rfl) dL_law_1089 ⟨hc1, hc2⟩ (fun rr_ M_262 H locs hq hP hS => ?_)
      obtain ⟨r_263, rfl, hw⟩ := hq
      refine lv_aload_n hx hb dL_law_1092 rfl (lv_at hl 2 rfl) ?_
      refine lv_aload_n hx hb dL_law_1093 rfl (lv_at hl 0 rfl) ?_
      refine lv_iload_n hx hb dL_law_1094 rfl (lv_at hl 3 rfl) ?_
      refine lv_iconst (v := 1) hx hb dL_law_1095 (by decide) ?_
      refine lv_iadd hx hb dL_law_1096 ?_
      refine va_sld hx hb hX hbl hbA hS hv1 dL_law_1097 ?_
      refine lv_aload_n hx hb dL_law_1098 rfl (lv_at hl 0 rfl) ?_
      refine lv_iload_n hx hb dL_law_1099 rfl (lv_at hl 3 rfl) ?_
      refine lv_iconst (v := 2) hx hb dL_law_1100 (by decide) ?_
      refine lv_iadd hx hb dL_law_1101 ?_
      refine va_sld hx hb hX hbl hbA hS hv2 dL_law_1102 ?_
      refine lv_aload_n hx hb dL_law_1103 rfl (lv_at hl 0 rfl) ?_
      refine lv_iload_n hx hb dL_law_1104 rfl (lv_at hl 3 rfl) ?_
      refine lv_iconst (v := 3) hx hb dL_law_1105 (by decide) ?_
      refine lv_iadd hx hb dL_law_1106 ?_
      refine va_sld hx hb hX hbl hbA hS hv3 dL_law_1107 ?_
      refine mw_V (As := [.int (xs (v3 + 1).toNatClampNeg), .int (xs (v3 + 2).toNatClampNeg), .int (xs (v3 + 3).toNatClampNeg)]) (rest := [.int r_263]) (T := TX10) (N := 25) (n := 3) ⟨hx, hb, hml, hown, hts⟩ (so_X10_odds l G 120 (xs (v3 + 1).toNatClampNeg) (xs (v3 + 2).toNatClampNeg) (xs (v3 + 3).toNatClampNeg) M_262 _ hw) wm_R_law_124 wi_yX10_odds wv_yX10_odds wn_RX10 wc_yX10_odds (by decide) ⟨Nat.le_of_ble_eq_true rfl, Nat.le_of_ble_eq_true rfl⟩ ⟨rfl, rfl⟩ k120_ (by decide) (mk10 k120_) rfl hSt hTb hP hS rfl hl.1 rfl (Nat.le_of_ble_eq_true rfl) dL_law_1108 ⟨hc1, hc2⟩ (fun rr_ M_267 H locs hq hP hS => ?_)
      obtain ⟨r_268, rfl, hw⟩ := hq
      obtain ⟨ceq, hw⟩ := hw
      refine lv_icmp_eq (tgt := 1508) hx hb dL_law_1111 (by decide) (fun _ => ?_) (fun cne => absurd ceq cne)
      exact J_1508 v3 M_267 _ _ _ rfl hw hP hS (lv_sub hl [0, 1, 2, 3] rfl)
    by_cases c_270 : ((xs v3.toNatClampNeg) &&& 63) = 26
    · have hw := hw.2.2.2.2.2.2.2.2.2.2.2.2.2.2.2.2.2.2.2.2.2.2.2.2.2.2.1 c_270
      refine mw_tcase (tgt := 1116) (off := 1083) hx hb dL_law_33 c_270 (by decide) ?_
      refine lv_aload_n hx hb dL_law_1116 rfl (lv_at hl 1 rfl) ?_
      refine lv_aload_n hx hb dL_law_1117 rfl (lv_at hl 0 rfl) ?_
      refine lv_iload_n hx hb dL_law_1118 rfl (lv_at hl 3 rfl) ?_
      refine lv_iconst (v := 1) hx hb dL_law_1119 (by decide) ?_
      refine lv_iadd hx hb dL_law_1120 ?_
      refine va_sld hx hb hX hbl hbA hS hv1 dL_law_1121 ?_
      refine mw_V (As := [.int (xs (v3 + 1).toNatClampNeg)]) (rest := []) (T := TX9) (N := 8) (n := 1) ⟨hx, hb, hml, hown, hts⟩ (so_X9_seed l G 0 (xs (v3 + 1).toNatClampNeg) M _ hw) wm_R_law_125 wi_yX9_seed wv_yX9_seed wn_RX9 wc_yX9_seed (by decide) ⟨Nat.le_of_ble_eq_true rfl, Nat.le_of_ble_eq_true rfl⟩ ⟨rfl, rfl⟩ k0_ (by decide) (mk9 k0_) rfl hSt hTb hP hS rfl hl.1 rfl (Nat.le_of_ble_eq_true rfl) dL_law_1122 ⟨hc1, hc2⟩ (fun rr_ M_272 H locs hq hP hS => ?_)
      obtain ⟨r_273, rfl, hw⟩ := hq
      refine lv_aload_n hx hb dL_law_1125 rfl (lv_at hl 2 rfl) ?_
      refine lv_aload_n hx hb dL_law_1126 rfl (lv_at hl 0 rfl) ?_
      refine lv_iload_n hx hb dL_law_1127 rfl (lv_at hl 3 rfl) ?_
      refine lv_iconst (v := 1) hx hb dL_law_1128 (by decide) ?_
      refine lv_iadd hx hb dL_law_1129 ?_
      refine va_sld hx hb hX hbl hbA hS hv1 dL_law_1130 ?_
      refine mw_V (As := [.int (xs (v3 + 1).toNatClampNeg)]) (rest := [.int r_273]) (T := TX10) (N := 25) (n := 1) ⟨hx, hb, hml, hown, hts⟩ (so_X10_seed l G 120 (xs (v3 + 1).toNatClampNeg) M_272 _ hw) wm_R_law_128 wi_yX10_seed wv_yX10_seed wn_RX10 wc_yX10_seed (by decide) ⟨Nat.le_of_ble_eq_true rfl, Nat.le_of_ble_eq_true rfl⟩ ⟨rfl, rfl⟩ k120_ (by decide) (mk10 k120_) rfl hSt hTb hP hS rfl hl.1 rfl (Nat.le_of_ble_eq_true rfl) dL_law_1131 ⟨hc1, hc2⟩ (fun rr_ M_275 H locs hq hP hS => ?_)
      obtain ⟨r_276, rfl, hw⟩ := hq
      obtain ⟨ceq, hw⟩ := hw
      refine lv_icmp_eq (tgt := 1508) hx hb dL_law_1134 (by decide) (fun _ => ?_) (fun cne => absurd ceq cne)
      exact J_1508 v3 M_275 _ _ _ rfl hw hP hS (lv_sub hl [0, 1, 2, 3] rfl)
    by_cases c_278 : ((xs v3.toNatClampNeg) &&& 63) = 27
    · have hw := hw.2.2.2.2.2.2.2.2.2.2.2.2.2.2.2.2.2.2.2.2.2.2.2.2.2.2.2.1 c_278
      refine mw_tcase (tgt := 1139) (off := 1106) hx hb dL_law_33 c_278 (by decide) ?_
      refine lv_aload_n hx hb dL_law_1139 rfl (lv_at hl 1 rfl) ?_
      refine lv_aload_n hx hb dL_law_1140 rfl (lv_at hl 0 rfl) ?_
      refine lv_iload_n hx hb dL_law_1141 rfl (lv_at hl 3 rfl) ?_
      refine lv_iconst (v := 1) hx hb dL_law_1142 (by decide) ?_
      refine lv_iadd hx hb dL_law_1143 ?_
      refine va_sld hx hb hX hbl hbA hS hv1 dL_law_1144 ?_
      refine lv_aload_n hx hb dL_law_1145 rfl (lv_at hl 0 rfl) ?_
      refine lv_iload_n hx hb dL_law_1146 rfl (lv_at hl 3 rfl) ?_
      refine lv_iconst (v := 2) hx hb dL_law_1147 (by decide) ?_
      refine lv_iadd hx hb dL_law_1148 ?_
      refine va_sld hx hb hX hbl hbA hS hv2 dL_law_1149 ?_
      refine lv_aload_n hx hb dL_law_1150 rfl (lv_at hl 0 rfl) ?_
      refine lv_iload_n hx hb dL_law_1151 rfl (lv_at hl 3 rfl) ?_
      refine lv_iconst (v := 3) hx hb dL_law_1152 (by decide) ?_
      refine lv_iadd hx hb dL_law_1153 ?_
      refine va_sld hx hb hX hbl hbA hS hv3 dL_law_1154 ?_
      refine mw_V (As := [.int (xs (v3 + 1).toNatClampNeg), .int (xs (v3 + 2).toNatClampNeg), .int (xs (v3 + 3).toNatClampNeg)]) (rest := []) (T := TX9) (N := 8) (n := 3) ⟨hx, hb, hml, hown, hts⟩ (so_X9_voice l G 0 (xs (v3 + 1).toNatClampNeg) (xs (v3 + 2).toNatClampNeg) (xs (v3 + 3).toNatClampNeg) M _ hw) wm_R_law_129 wi_yX9_voice wv_yX9_voice wn_RX9 wc_yX9_voice (by decide) ⟨Nat.le_of_ble_eq_true rfl, Nat.le_of_ble_eq_true rfl⟩ ⟨rfl, rfl⟩ k0_ (by decide) (mk9 k0_) rfl hSt hTb hP hS rfl hl.1 rfl (Nat.le_of_ble_eq_true rfl) dL_law_1155 ⟨hc1, hc2⟩ (fun rr_ M_282 H locs hq hP hS => ?_)
      obtain ⟨r_283, rfl, hw⟩ := hq
      refine lv_aload_n hx hb dL_law_1158 rfl (lv_at hl 2 rfl) ?_
      refine lv_aload_n hx hb dL_law_1159 rfl (lv_at hl 0 rfl) ?_
      refine lv_iload_n hx hb dL_law_1160 rfl (lv_at hl 3 rfl) ?_
      refine lv_iconst (v := 1) hx hb dL_law_1161 (by decide) ?_
      refine lv_iadd hx hb dL_law_1162 ?_
      refine va_sld hx hb hX hbl hbA hS hv1 dL_law_1163 ?_
      refine lv_aload_n hx hb dL_law_1164 rfl (lv_at hl 0 rfl) ?_
      refine lv_iload_n hx hb dL_law_1165 rfl (lv_at hl 3 rfl) ?_
      refine lv_iconst (v := 2) hx hb dL_law_1166 (by decide) ?_
      refine lv_iadd hx hb dL_law_1167 ?_
      refine va_sld hx hb hX hbl hbA hS hv2 dL_law_1168 ?_
      refine lv_aload_n hx hb dL_law_1169 rfl (lv_at hl 0 rfl) ?_
      refine lv_iload_n hx hb dL_law_1170 rfl (lv_at hl 3 rfl) ?_
      refine lv_iconst (v := 3) hx hb dL_law_1171 (by decide) ?_
      refine lv_iadd hx hb dL_law_1172 ?_
      refine va_sld hx hb hX hbl hbA hS hv3 dL_law_1173 ?_
      refine mw_V (As := [.int (xs (v3 + 1).toNatClampNeg), .int (xs (v3 + 2).toNatClampNeg), .int (xs (v3 + 3).toNatClampNeg)]) (rest := [.int r_283]) (T := TX10) (N := 25) (n := 3) ⟨hx, hb, hml, hown, hts⟩ (so_X10_voice l G 120 (xs (v3 + 1).toNatClampNeg) (xs (v3 + 2).toNatClampNeg) (xs (v3 + 3).toNatClampNeg) M_282 _ hw) wm_R_law_132 wi_yX10_voice wv_yX10_voice wn_RX10 wc_yX10_voice (by decide) ⟨Nat.le_of_ble_eq_true rfl, Nat.le_of_ble_eq_true rfl⟩ ⟨rfl, rfl⟩ k120_ (by decide) (mk10 k120_) rfl hSt hTb hP hS rfl hl.1 rfl (Nat.le_of_ble_eq_true rfl) dL_law_1174 ⟨hc1, hc2⟩ (fun rr_ M_287 H locs hq hP hS => ?_)
      obtain ⟨r_288, rfl, hw⟩ := hq
      obtain ⟨ceq, hw⟩ := hw
      refine lv_icmp_eq (tgt := 1508) hx hb dL_law_1177 (by decide) (fun _ => ?_) (fun cne => absurd ceq cne)
      exact J_1508 v3 M_287 _ _ _ rfl hw hP hS (lv_sub hl [0, 1, 2, 3] rfl)
    by_cases c_290 : ((xs v3.toNatClampNeg) &&& 63) = 28
    · have hw := hw.2.2.2.2.2.2.2.2.2.2.2.2.2.2.2.2.2.2.2.2.2.2.2.2.2.2.2.2.1 c_290
      refine mw_tcase (tgt := 1182) (off := 1149) hx hb dL_law_33 c_290 (by decide) ?_
      refine lv_aload_n hx hb dL_law_1182 rfl (lv_at hl 1 rfl) ?_
      refine lv_aload_n hx hb dL_law_1183 rfl (lv_at hl 0 rfl) ?_
      refine lv_iload_n hx hb dL_law_1184 rfl (lv_at hl 3 rfl) ?_
      refine lv_iconst (v := 1) hx hb dL_law_1185 (by decide) ?_
      refine lv_iadd hx hb dL_law_1186 ?_
      refine va_sld hx hb hX hbl hbA hS hv1 dL_law_1187 ?_
      refine mw_V (As := [.int (xs (v3 + 1).toNatClampNeg)]) (rest := []) (T := TX9) (N := 8) (n := 1) ⟨hx, hb, hml, hown, hts⟩ (so_X9_trace l G 0 (xs (v3 + 1).toNatClampNeg) M _ hw) wm_R_law_133 wi_yX9_trace wv_yX9_trace wn_RX9 wc_yX9_trace (by decide) ⟨Nat.le_of_ble_eq_true rfl, Nat.le_of_ble_eq_true rfl⟩ ⟨rfl, rfl⟩ k0_ (by decide) (mk9 k0_) rfl hSt hTb hP hS rfl hl.1 rfl (Nat.le_of_ble_eq_true rfl) dL_law_1188 ⟨hc1, hc2⟩ (fun rr_ M_292 H locs hq hP hS => ?_)
      obtain ⟨r_293, rfl, hw⟩ := hq
      refine lv_aload_n hx hb dL_law_1191 rfl (lv_at hl 2 rfl) ?_
      refine lv_aload_n hx hb dL_law_1192 rfl (lv_at hl 0 rfl) ?_
      refine lv_iload_n hx hb dL_law_1193 rfl (lv_at hl 3 rfl) ?_
      refine lv_iconst (v := 1) hx hb dL_law_1194 (by decide) ?_
      refine lv_iadd hx hb dL_law_1195 ?_
      refine va_sld hx hb hX hbl hbA hS hv1 dL_law_1196 ?_
      refine mw_V (As := [.int (xs (v3 + 1).toNatClampNeg)]) (rest := [.int r_293]) (T := TX10) (N := 25) (n := 1) ⟨hx, hb, hml, hown, hts⟩ (so_X10_trace l G 120 (xs (v3 + 1).toNatClampNeg) M_292 _ hw) wm_R_law_136 wi_yX10_trace wv_yX10_trace wn_RX10 wc_yX10_trace (by decide) ⟨Nat.le_of_ble_eq_true rfl, Nat.le_of_ble_eq_true rfl⟩ ⟨rfl, rfl⟩ k120_ (by decide) (mk10 k120_) rfl hSt hTb hP hS rfl hl.1 rfl (Nat.le_of_ble_eq_true rfl) dL_law_1197 ⟨hc1, hc2⟩ (fun rr_ M_295 H locs hq hP hS => ?_)
      obtain ⟨r_296, rfl, hw⟩ := hq
      obtain ⟨ceq, hw⟩ := hw
      refine lv_icmp_eq (tgt := 1508) hx hb dL_law_1200 (by decide) (fun _ => ?_) (fun cne => absurd ceq cne)
      exact J_1508 v3 M_295 _ _ _ rfl hw hP hS (lv_sub hl [0, 1, 2, 3] rfl)
    by_cases c_298 : ((xs v3.toNatClampNeg) &&& 63) = 29
    · have hw := hw.2.2.2.2.2.2.2.2.2.2.2.2.2.2.2.2.2.2.2.2.2.2.2.2.2.2.2.2.2.1 c_298
      refine mw_tcase (tgt := 1205) (off := 1172) hx hb dL_law_33 c_298 (by decide) ?_
      refine lv_aload_n hx hb dL_law_1205 rfl (lv_at hl 1 rfl) ?_
      refine lv_aload_n hx hb dL_law_1206 rfl (lv_at hl 0 rfl) ?_
      refine lv_iload_n hx hb dL_law_1207 rfl (lv_at hl 3 rfl) ?_
      refine lv_iconst (v := 1) hx hb dL_law_1208 (by decide) ?_
      refine lv_iadd hx hb dL_law_1209 ?_
      refine va_sld hx hb hX hbl hbA hS hv1 dL_law_1210 ?_
      refine lv_aload_n hx hb dL_law_1211 rfl (lv_at hl 0 rfl) ?_
      refine lv_iload_n hx hb dL_law_1212 rfl (lv_at hl 3 rfl) ?_
      refine lv_iconst (v := 2) hx hb dL_law_1213 (by decide) ?_
      refine lv_iadd hx hb dL_law_1214 ?_
      refine va_sld hx hb hX hbl hbA hS hv2 dL_law_1215 ?_
      refine lv_aload_n hx hb dL_law_1216 rfl (lv_at hl 0 rfl) ?_
      refine lv_iload_n hx hb dL_law_1217 rfl (lv_at hl 3 rfl) ?_
      refine lv_iconst (v := 3) hx hb dL_law_1218 (by decide) ?_
      refine lv_iadd hx hb dL_law_1219 ?_
      refine va_sld hx hb hX hbl hbA hS hv3 dL_law_1220 ?_
      refine mw_V (As := [.int (xs (v3 + 1).toNatClampNeg), .int (xs (v3 + 2).toNatClampNeg), .int (xs (v3 + 3).toNatClampNeg)]) (rest := []) (T := TX9) (N := 8) (n := 3) ⟨hx, hb, hml, hown, hts⟩ (so_X9_sheet l G 0 (xs (v3 + 1).toNatClampNeg) (xs (v3 + 2).toNatClampNeg) (xs (v3 + 3).toNatClampNeg) M _ hw) wm_R_law_137 wi_yX9_sheet wv_yX9_sheet wn_RX9 wc_yX9_sheet (by decide) ⟨Nat.le_of_ble_eq_true rfl, Nat.le_of_ble_eq_true rfl⟩ ⟨rfl, rfl⟩ k0_ (by decide) (mk9 k0_) rfl hSt hTb hP hS rfl hl.1 rfl (Nat.le_of_ble_eq_true rfl) dL_law_1221 ⟨hc1, hc2⟩ (fun rr_ M_302 H locs hq hP hS => ?_)
      obtain ⟨r_303, rfl, hw⟩ := hq
      refine lv_aload_n hx hb dL_law_1224 rfl (lv_at hl 2 rfl) ?_
      refine lv_aload_n hx hb dL_law_1225 rfl (lv_at hl 0 rfl) ?_
      refine lv_iload_n hx hb dL_law_1226 rfl (lv_at hl 3 rfl) ?_
      refine lv_iconst (v := 1) hx hb dL_law_1227 (by decide) ?_
      refine lv_iadd hx hb dL_law_1228 ?_
      refine va_sld hx hb hX hbl hbA hS hv1 dL_law_1229 ?_
      refine lv_aload_n hx hb dL_law_1230 rfl (lv_at hl 0 rfl) ?_
      refine lv_iload_n hx hb dL_law_1231 rfl (lv_at hl 3 rfl) ?_
      refine lv_iconst (v := 2) hx hb dL_law_1232 (by decide) ?_
      refine lv_iadd hx hb dL_law_1233 ?_
      refine va_sld hx hb hX hbl hbA hS hv2 dL_law_1234 ?_
      refine lv_aload_n hx hb dL_law_1235 rfl (lv_at hl 0 rfl) ?_
      refine lv_iload_n hx hb dL_law_1236 rfl (lv_at hl 3 rfl) ?_
      refine lv_iconst (v := 3) hx hb dL_law_1237 (by decide) ?_
      refine lv_iadd hx hb dL_law_1238 ?_
      refine va_sld hx hb hX hbl hbA hS hv3 dL_law_1239 ?_
      refine mw_V (As := [.int (xs (v3 + 1).toNatClampNeg), .int (xs (v3 + 2).toNatClampNeg), .int (xs (v3 + 3).toNatClampNeg)]) (rest := [.int r_303]) (T := TX10) (N := 25) (n := 3) ⟨hx, hb, hml, hown, hts⟩ (so_X10_sheet l G 120 (xs (v3 + 1).toNatClampNeg) (xs (v3 + 2).toNatClampNeg) (xs (v3 + 3).toNatClampNeg) M_302 _ hw) wm_R_law_140 wi_yX10_sheet wv_yX10_sheet wn_RX10 wc_yX10_sheet (by decide) ⟨Nat.le_of_ble_eq_true rfl, Nat.le_of_ble_eq_true rfl⟩ ⟨rfl, rfl⟩ k120_ (by decide) (mk10 k120_) rfl hSt hTb hP hS rfl hl.1 rfl (Nat.le_of_ble_eq_true rfl) dL_law_1240 ⟨hc1, hc2⟩ (fun rr_ M_307 H locs hq hP hS => ?_)
      obtain ⟨r_308, rfl, hw⟩ := hq
      obtain ⟨ceq, hw⟩ := hw
      refine lv_icmp_eq (tgt := 1508) hx hb dL_law_1243 (by decide) (fun _ => ?_) (fun cne => absurd ceq cne)
      exact J_1508 v3 M_307 _ _ _ rfl hw hP hS (lv_sub hl [0, 1, 2, 3] rfl)
    by_cases c_310 : ((xs v3.toNatClampNeg) &&& 63) = 30
    · have hw := hw.2.2.2.2.2.2.2.2.2.2.2.2.2.2.2.2.2.2.2.2.2.2.2.2.2.2.2.2.2.2.1 c_310
      refine mw_tcase (tgt := 1248) (off := 1215) hx hb dL_law_33 c_310 (by decide) ?_
      refine lv_aload_n hx hb dL_law_1248 rfl (lv_at hl 1 rfl) ?_
      refine lv_aload_n hx hb dL_law_1249 rfl (lv_at hl 0 rfl) ?_
      refine lv_iload_n hx hb dL_law_1250 rfl (lv_at hl 3 rfl) ?_
      refine lv_iconst (v := 1) hx hb dL_law_1251 (by decide) ?_
      refine lv_iadd hx hb dL_law_1252 ?_
      refine va_sld hx hb hX hbl hbA hS hv1 dL_law_1253 ?_
      refine lv_aload_n hx hb dL_law_1254 rfl (lv_at hl 0 rfl) ?_
      refine lv_iload_n hx hb dL_law_1255 rfl (lv_at hl 3 rfl) ?_
      refine lv_iconst (v := 2) hx hb dL_law_1256 (by decide) ?_
      refine lv_iadd hx hb dL_law_1257 ?_
      refine va_sld hx hb hX hbl hbA hS hv2 dL_law_1258 ?_
      refine lv_aload_n hx hb dL_law_1259 rfl (lv_at hl 0 rfl) ?_
      refine lv_iload_n hx hb dL_law_1260 rfl (lv_at hl 3 rfl) ?_
      refine lv_iconst (v := 3) hx hb dL_law_1261 (by decide) ?_
      refine lv_iadd hx hb dL_law_1262 ?_
      refine va_sld hx hb hX hbl hbA hS hv3 dL_law_1263 ?_
      refine mw_V (As := [.int (xs (v3 + 1).toNatClampNeg), .int (xs (v3 + 2).toNatClampNeg), .int (xs (v3 + 3).toNatClampNeg)]) (rest := []) (T := TX9) (N := 8) (n := 3) ⟨hx, hb, hml, hown, hts⟩ (so_X9_put l G 0 (xs (v3 + 1).toNatClampNeg) (xs (v3 + 2).toNatClampNeg) (xs (v3 + 3).toNatClampNeg) M _ hw) wm_R_law_141 wi_yX9_put wv_yX9_put wn_RX9 wc_yX9_put (by decide) ⟨Nat.le_of_ble_eq_true rfl, Nat.le_of_ble_eq_true rfl⟩ ⟨rfl, rfl⟩ k0_ (by decide) (mk9 k0_) rfl hSt hTb hP hS rfl hl.1 rfl (Nat.le_of_ble_eq_true rfl) dL_law_1264 ⟨hc1, hc2⟩ (fun rr_ M_314 H locs hq hP hS => ?_)
      obtain ⟨r_315, rfl, hw⟩ := hq
      refine lv_aload_n hx hb dL_law_1267 rfl (lv_at hl 2 rfl) ?_
      refine lv_aload_n hx hb dL_law_1268 rfl (lv_at hl 0 rfl) ?_
      refine lv_iload_n hx hb dL_law_1269 rfl (lv_at hl 3 rfl) ?_
      refine lv_iconst (v := 1) hx hb dL_law_1270 (by decide) ?_
      refine lv_iadd hx hb dL_law_1271 ?_
      refine va_sld hx hb hX hbl hbA hS hv1 dL_law_1272 ?_
      refine lv_aload_n hx hb dL_law_1273 rfl (lv_at hl 0 rfl) ?_
      refine lv_iload_n hx hb dL_law_1274 rfl (lv_at hl 3 rfl) ?_
      refine lv_iconst (v := 2) hx hb dL_law_1275 (by decide) ?_
      refine lv_iadd hx hb dL_law_1276 ?_
      refine va_sld hx hb hX hbl hbA hS hv2 dL_law_1277 ?_
      refine lv_aload_n hx hb dL_law_1278 rfl (lv_at hl 0 rfl) ?_
      refine lv_iload_n hx hb dL_law_1279 rfl (lv_at hl 3 rfl) ?_
      refine lv_iconst (v := 3) hx hb dL_law_1280 (by decide) ?_
      refine lv_iadd hx hb dL_law_1281 ?_
      refine va_sld hx hb hX hbl hbA hS hv3 dL_law_1282 ?_
      refine mw_V (As := [.int (xs (v3 + 1).toNatClampNeg), .int (xs (v3 + 2).toNatClampNeg), .int (xs (v3 + 3).toNatClampNeg)]) (rest := [.int r_315]) (T := TX10) (N := 25) (n := 3) ⟨hx, hb, hml, hown, hts⟩ (so_X10_put l G 120 (xs (v3 + 1).toNatClampNeg) (xs (v3 + 2).toNatClampNeg) (xs (v3 + 3).toNatClampNeg) M_314 _ hw) wm_R_law_144 wi_yX10_put wv_yX10_put wn_RX10 wc_yX10_put (by decide) ⟨Nat.le_of_ble_eq_true rfl, Nat.le_of_ble_eq_true rfl⟩ ⟨rfl, rfl⟩ k120_ (by decide) (mk10 k120_) rfl hSt hTb hP hS rfl hl.1 rfl (Nat.le_of_ble_eq_true rfl) dL_law_1283 ⟨hc1, hc2⟩ (fun rr_ M_319 H locs hq hP hS => ?_)
      obtain ⟨r_320, rfl, hw⟩ := hq
      obtain ⟨ceq, hw⟩ := hw
      refine lv_icmp_eq (tgt := 1508) hx hb dL_law_1286 (by decide) (fun _ => ?_) (fun cne => absurd ceq cne)
      exact J_1508 v3 M_319 _ _ _ rfl hw hP hS (lv_sub hl [0, 1, 2, 3] rfl)
    by_cases c_322 : ((xs v3.toNatClampNeg) &&& 63) = 31
    · have hw := hw.2.2.2.2.2.2.2.2.2.2.2.2.2.2.2.2.2.2.2.2.2.2.2.2.2.2.2.2.2.2.2.1 c_322
      refine mw_tcase (tgt := 1291) (off := 1258) hx hb dL_law_33 c_322 (by decide) ?_
      refine lv_aload_n hx hb dL_law_1291 rfl (lv_at hl 1 rfl) ?_
      refine lv_aload_n hx hb dL_law_1292 rfl (lv_at hl 0 rfl) ?_
      refine lv_iload_n hx hb dL_law_1293 rfl (lv_at hl 3 rfl) ?_
      refine lv_iconst (v := 1) hx hb dL_law_1294 (by decide) ?_
      refine lv_iadd hx hb dL_law_1295 ?_
      refine va_sld hx hb hX hbl hbA hS hv1 dL_law_1296 ?_
      refine lv_aload_n hx hb dL_law_1297 rfl (lv_at hl 0 rfl) ?_
      refine lv_iload_n hx hb dL_law_1298 rfl (lv_at hl 3 rfl) ?_
      refine lv_iconst (v := 2) hx hb dL_law_1299 (by decide) ?_
      refine lv_iadd hx hb dL_law_1300 ?_
      refine va_sld hx hb hX hbl hbA hS hv2 dL_law_1301 ?_
      refine lv_aload_n hx hb dL_law_1302 rfl (lv_at hl 0 rfl) ?_
      refine lv_iload_n hx hb dL_law_1303 rfl (lv_at hl 3 rfl) ?_
      refine lv_iconst (v := 3) hx hb dL_law_1304 (by decide) ?_
      refine lv_iadd hx hb dL_law_1305 ?_
      refine va_sld hx hb hX hbl hbA hS hv3 dL_law_1306 ?_
      refine lv_aload_n hx hb dL_law_1307 rfl (lv_at hl 0 rfl) ?_
      refine lv_iload_n hx hb dL_law_1308 rfl (lv_at hl 3 rfl) ?_
      refine lv_iconst (v := 4) hx hb dL_law_1309 (by decide) ?_
      refine lv_iadd hx hb dL_law_1310 ?_
      refine va_sld hx hb hX hbl hbA hS hv4 dL_law_1311 ?_
      refine lv_aload_n hx hb dL_law_1312 rfl (lv_at hl 0 rfl) ?_
      refine lv_iload_n hx hb dL_law_1313 rfl (lv_at hl 3 rfl) ?_
      refine lv_iconst (v := 5) hx hb dL_law_1314 (by decide) ?_
      refine lv_iadd hx hb dL_law_1315 ?_
      refine va_sld hx hb hX hbl hbA hS hv5 dL_law_1316 ?_
      refine mw_V (As := [.int (xs (v3 + 1).toNatClampNeg), .int (xs (v3 + 2).toNatClampNeg), .int (xs (v3 + 3).toNatClampNeg), .int (xs (v3 + 4).toNatClampNeg), .int (xs (v3 + 5).toNatClampNeg)]) (rest := []) (T := TX9) (N := 8) (n := 5) ⟨hx, hb, hml, hown, hts⟩ (so_X9_move l G 0 (xs (v3 + 1).toNatClampNeg) (xs (v3 + 2).toNatClampNeg) (xs (v3 + 3).toNatClampNeg) (xs (v3 + 4).toNatClampNeg) (xs (v3 + 5).toNatClampNeg) M _ hw) wm_R_law_145 wi_yX9_move wv_yX9_move wn_RX9 wc_yX9_move (by decide) ⟨Nat.le_of_ble_eq_true rfl, Nat.le_of_ble_eq_true rfl⟩ ⟨rfl, rfl⟩ k0_ (by decide) (mk9 k0_) rfl hSt hTb hP hS rfl hl.1 rfl (Nat.le_of_ble_eq_true rfl) dL_law_1317 ⟨hc1, hc2⟩ (fun rr_ M_328 H locs hq hP hS => ?_)
      obtain ⟨r_329, rfl, hw⟩ := hq
      refine lv_aload_n hx hb dL_law_1320 rfl (lv_at hl 2 rfl) ?_
      refine lv_aload_n hx hb dL_law_1321 rfl (lv_at hl 0 rfl) ?_
      refine lv_iload_n hx hb dL_law_1322 rfl (lv_at hl 3 rfl) ?_
      refine lv_iconst (v := 1) hx hb dL_law_1323 (by decide) ?_
      refine lv_iadd hx hb dL_law_1324 ?_
      refine va_sld hx hb hX hbl hbA hS hv1 dL_law_1325 ?_
      refine lv_aload_n hx hb dL_law_1326 rfl (lv_at hl 0 rfl) ?_
      refine lv_iload_n hx hb dL_law_1327 rfl (lv_at hl 3 rfl) ?_
      refine lv_iconst (v := 2) hx hb dL_law_1328 (by decide) ?_
      refine lv_iadd hx hb dL_law_1329 ?_
      refine va_sld hx hb hX hbl hbA hS hv2 dL_law_1330 ?_
      refine lv_aload_n hx hb dL_law_1331 rfl (lv_at hl 0 rfl) ?_
      refine lv_iload_n hx hb dL_law_1332 rfl (lv_at hl 3 rfl) ?_
      refine lv_iconst (v := 3) hx hb dL_law_1333 (by decide) ?_
      refine lv_iadd hx hb dL_law_1334 ?_
      refine va_sld hx hb hX hbl hbA hS hv3 dL_law_1335 ?_
      refine lv_aload_n hx hb dL_law_1336 rfl (lv_at hl 0 rfl) ?_
      refine lv_iload_n hx hb dL_law_1337 rfl (lv_at hl 3 rfl) ?_
      refine lv_iconst (v := 4) hx hb dL_law_1338 (by decide) ?_
      refine lv_iadd hx hb dL_law_1339 ?_
      refine va_sld hx hb hX hbl hbA hS hv4 dL_law_1340 ?_
      refine lv_aload_n hx hb dL_law_1341 rfl (lv_at hl 0 rfl) ?_
      refine lv_iload_n hx hb dL_law_1342 rfl (lv_at hl 3 rfl) ?_
      refine lv_iconst (v := 5) hx hb dL_law_1343 (by decide) ?_
      refine lv_iadd hx hb dL_law_1344 ?_
      refine va_sld hx hb hX hbl hbA hS hv5 dL_law_1345 ?_
      refine mw_V (As := [.int (xs (v3 + 1).toNatClampNeg), .int (xs (v3 + 2).toNatClampNeg), .int (xs (v3 + 3).toNatClampNeg), .int (xs (v3 + 4).toNatClampNeg), .int (xs (v3 + 5).toNatClampNeg)]) (rest := [.int r_329]) (T := TX10) (N := 25) (n := 5) ⟨hx, hb, hml, hown, hts⟩ (so_X10_move l G 120 (xs (v3 + 1).toNatClampNeg) (xs (v3 + 2).toNatClampNeg) (xs (v3 + 3).toNatClampNeg) (xs (v3 + 4).toNatClampNeg) (xs (v3 + 5).toNatClampNeg) M_328 _ hw) wm_R_law_149 wi_yX10_move wv_yX10_move wn_RX10 wc_yX10_move (by decide) ⟨Nat.le_of_ble_eq_true rfl, Nat.le_of_ble_eq_true rfl⟩ ⟨rfl, rfl⟩ k120_ (by decide) (mk10 k120_) rfl hSt hTb hP hS rfl hl.1 rfl (Nat.le_of_ble_eq_true rfl) dL_law_1346 ⟨hc1, hc2⟩ (fun rr_ M_335 H locs hq hP hS => ?_)
      obtain ⟨r_336, rfl, hw⟩ := hq
      obtain ⟨ceq, hw⟩ := hw
      refine lv_icmp_eq (tgt := 1508) hx hb dL_law_1349 (by decide) (fun _ => ?_) (fun cne => absurd ceq cne)
      exact J_1508 v3 M_335 _ _ _ rfl hw hP hS (lv_sub hl [0, 1, 2, 3] rfl)
    by_cases c_338 : ((xs v3.toNatClampNeg) &&& 63) = 32
    · have hw := hw.2.2.2.2.2.2.2.2.2.2.2.2.2.2.2.2.2.2.2.2.2.2.2.2.2.2.2.2.2.2.2.2.1 c_338
      refine mw_tcase (tgt := 1354) (off := 1321) hx hb dL_law_33 c_338 (by decide) ?_
      refine lv_aload_n hx hb dL_law_1354 rfl (lv_at hl 1 rfl) ?_
      refine lv_aload_n hx hb dL_law_1355 rfl (lv_at hl 0 rfl) ?_
      refine lv_iload_n hx hb dL_law_1356 rfl (lv_at hl 3 rfl) ?_
      refine lv_iconst (v := 1) hx hb dL_law_1357 (by decide) ?_
      refine lv_iadd hx hb dL_law_1358 ?_
      refine va_sld hx hb hX hbl hbA hS hv1 dL_law_1359 ?_
      refine mw_V (As := [.int (xs (v3 + 1).toNatClampNeg)]) (rest := []) (T := TX9) (N := 8) (n := 1) ⟨hx, hb, hml, hown, hts⟩ (so_X9_snows l G 0 (xs (v3 + 1).toNatClampNeg) M _ hw) wm_R_law_150 wi_yX9_snows wv_yX9_snows wn_RX9 wc_yX9_snows (by decide) ⟨Nat.le_of_ble_eq_true rfl, Nat.le_of_ble_eq_true rfl⟩ ⟨rfl, rfl⟩ k0_ (by decide) (mk9 k0_) rfl hSt hTb hP hS rfl hl.1 rfl (Nat.le_of_ble_eq_true rfl) dL_law_1360 ⟨hc1, hc2⟩ (fun rr_ M_340 H locs hq hP hS => ?_)
      obtain ⟨r_341, rfl, hw⟩ := hq
      refine lv_aload_n hx hb dL_law_1363 rfl (lv_at hl 2 rfl) ?_
      refine lv_aload_n hx hb dL_law_1364 rfl (lv_at hl 0 rfl) ?_
      refine lv_iload_n hx hb dL_law_1365 rfl (lv_at hl 3 rfl) ?_
      refine lv_iconst (v := 1) hx hb dL_law_1366 (by decide) ?_
      refine lv_iadd hx hb dL_law_1367 ?_
      refine va_sld hx hb hX hbl hbA hS hv1 dL_law_1368 ?_
      refine mw_V (As := [.int (xs (v3 + 1).toNatClampNeg)]) (rest := [.int r_341]) (T := TX10) (N := 25) (n := 1) ⟨hx, hb, hml, hown, hts⟩ (so_X10_snows l G 120 (xs (v3 + 1).toNatClampNeg) M_340 _ hw) wm_R_law_153 wi_yX10_snows wv_yX10_snows wn_RX10 wc_yX10_snows (by decide) ⟨Nat.le_of_ble_eq_true rfl, Nat.le_of_ble_eq_true rfl⟩ ⟨rfl, rfl⟩ k120_ (by decide) (mk10 k120_) rfl hSt hTb hP hS rfl hl.1 rfl (Nat.le_of_ble_eq_true rfl) dL_law_1369 ⟨hc1, hc2⟩ (fun rr_ M_343 H locs hq hP hS => ?_)
      obtain ⟨r_344, rfl, hw⟩ := hq
      obtain ⟨ceq, hw⟩ := hw
      refine lv_icmp_eq (tgt := 1508) hx hb dL_law_1372 (by decide) (fun _ => ?_) (fun cne => absurd ceq cne)
      exact J_1508 v3 M_343 _ _ _ rfl hw hP hS (lv_sub hl [0, 1, 2, 3] rfl)
    by_cases c_346 : ((xs v3.toNatClampNeg) &&& 63) = 33
    · have hw := hw.2.2.2.2.2.2.2.2.2.2.2.2.2.2.2.2.2.2.2.2.2.2.2.2.2.2.2.2.2.2.2.2.2.1 c_346
      refine mw_tcase (tgt := 1377) (off := 1344) hx hb dL_law_33 c_346 (by decide) ?_
      refine lv_aload_n hx hb dL_law_1377 rfl (lv_at hl 1 rfl) ?_
      refine lv_aload_n hx hb dL_law_1378 rfl (lv_at hl 0 rfl) ?_
      refine lv_iload_n hx hb dL_law_1379 rfl (lv_at hl 3 rfl) ?_
      refine lv_iconst (v := 1) hx hb dL_law_1380 (by decide) ?_
      refine lv_iadd hx hb dL_law_1381 ?_
      refine va_sld hx hb hX hbl hbA hS hv1 dL_law_1382 ?_
      refine mw_V (As := [.int (xs (v3 + 1).toNatClampNeg)]) (rest := []) (T := TX9) (N := 8) (n := 1) ⟨hx, hb, hml, hown, hts⟩ (so_X9_judge l G 0 (xs (v3 + 1).toNatClampNeg) M _ hw) wm_R_law_154 wi_yX9_judge wv_yX9_judge wn_RX9 wc_yX9_judge (by decide) ⟨Nat.le_of_ble_eq_true rfl, Nat.le_of_ble_eq_true rfl⟩ ⟨rfl, rfl⟩ k0_ (by decide) (mk9 k0_) rfl hSt hTb hP hS rfl hl.1 rfl (Nat.le_of_ble_eq_true rfl) dL_law_1383 ⟨hc1, hc2⟩ (fun rr_ M_348 H locs hq hP hS => ?_)
      obtain ⟨r_349, rfl, hw⟩ := hq
      refine lv_aload_n hx hb dL_law_1386 rfl (lv_at hl 2 rfl) ?_
      refine lv_aload_n hx hb dL_law_1387 rfl (lv_at hl 0 rfl) ?_
      refine lv_iload_n hx hb dL_law_1388 rfl (lv_at hl 3 rfl) ?_
      refine lv_iconst (v := 1) hx hb dL_law_1389 (by decide) ?_
      refine lv_iadd hx hb dL_law_1390 ?_
      refine va_sld hx hb hX hbl hbA hS hv1 dL_law_1391 ?_
      refine mw_V (As := [.int (xs (v3 + 1).toNatClampNeg)]) (rest := [.int r_349]) (T := TX10) (N := 25) (n := 1) ⟨hx, hb, hml, hown, hts⟩ (so_X10_judge l G 120 (xs (v3 + 1).toNatClampNeg) M_348 _ hw) wm_R_law_157 wi_yX10_judge wv_yX10_judge wn_RX10 wc_yX10_judge (by decide) ⟨Nat.le_of_ble_eq_true rfl, Nat.le_of_ble_eq_true rfl⟩ ⟨rfl, rfl⟩ k120_ (by decide) (mk10 k120_) rfl hSt hTb hP hS rfl hl.1 rfl (Nat.le_of_ble_eq_true rfl) dL_law_1392 ⟨hc1, hc2⟩ (fun rr_ M_351 H locs hq hP hS => ?_)
      obtain ⟨r_352, rfl, hw⟩ := hq
      obtain ⟨ceq, hw⟩ := hw
      refine lv_icmp_eq (tgt := 1508) hx hb dL_law_1395 (by decide) (fun _ => ?_) (fun cne => absurd ceq cne)
      exact J_1508 v3 M_351 _ _ _ rfl hw hP hS (lv_sub hl [0, 1, 2, 3] rfl)
    by_cases c_354 : ((xs v3.toNatClampNeg) &&& 63) = 34
    · have hw := hw.2.2.2.2.2.2.2.2.2.2.2.2.2.2.2.2.2.2.2.2.2.2.2.2.2.2.2.2.2.2.2.2.2.2.1 c_354
      refine mw_tcase (tgt := 1400) (off := 1367) hx hb dL_law_33 c_354 (by decide) ?_
      refine lv_aload_n hx hb dL_law_1400 rfl (lv_at hl 1 rfl) ?_
      refine mw_V (As := []) (rest := []) (T := TX9) (N := 8) (n := 0) ⟨hx, hb, hml, hown, hts⟩ (so_X9_image l G 0 M _ hw) wm_R_law_158 wi_yX9_image wv_yX9_image wn_RX9 wc_yX9_image (by decide) ⟨Nat.le_of_ble_eq_true rfl, Nat.le_of_ble_eq_true rfl⟩ ⟨rfl, rfl⟩ k0_ (by decide) (mk9 k0_) rfl hSt hTb hP hS rfl hl.1 rfl (Nat.le_of_ble_eq_true rfl) dL_law_1401 ⟨hc1, hc2⟩ (fun rr_ M_355 H locs hq hP hS => ?_)
      obtain ⟨r_356, rfl, hw⟩ := hq
      refine lv_aload_n hx hb dL_law_1404 rfl (lv_at hl 2 rfl) ?_
      refine mw_V (As := []) (rest := [.int r_356]) (T := TX10) (N := 25) (n := 0) ⟨hx, hb, hml, hown, hts⟩ (so_X10_image l G 120 M_355 _ hw) wm_R_law_161 wi_yX10_image wv_yX10_image wn_RX10 wc_yX10_image (by decide) ⟨Nat.le_of_ble_eq_true rfl, Nat.le_of_ble_eq_true rfl⟩ ⟨rfl, rfl⟩ k120_ (by decide) (mk10 k120_) rfl hSt hTb hP hS rfl hl.1 rfl (Nat.le_of_ble_eq_true rfl) dL_law_1405 ⟨hc1, hc2⟩ (fun rr_ M_357 H locs hq hP hS => ?_)
      obtain ⟨r_358, rfl, hw⟩ := hq
      obtain ⟨ceq, hw⟩ := hw
      refine lv_icmp_eq (tgt := 1508) hx hb dL_law_1408 (by decide) (fun _ => ?_) (fun cne => absurd ceq cne)
      exact J_1508 v3 M_357 _ _ _ rfl hw hP hS (lv_sub hl [0, 1, 2, 3] rfl)
    by_cases c_360 : ((xs v3.toNatClampNeg) &&& 63) = 35
    · have hw := hw.2.2.2.2.2.2.2.2.2.2.2.2.2.2.2.2.2.2.2.2.2.2.2.2.2.2.2.2.2.2.2.2.2.2.2.1 c_360
      refine mw_tcase (tgt := 1413) (off := 1380) hx hb dL_law_33 c_360 (by decide) ?_
      refine lv_aload_n hx hb dL_law_1413 rfl (lv_at hl 1 rfl) ?_
      refine mw_V (As := []) (rest := []) (T := TX9) (N := 8) (n := 0) ⟨hx, hb, hml, hown, hts⟩ (so_X9_restore l G 0 M _ hw) wm_R_law_162 wi_yX9_restore wv_yX9_restore wn_RX9 wc_yX9_restore (by decide) ⟨Nat.le_of_ble_eq_true rfl, Nat.le_of_ble_eq_true rfl⟩ ⟨rfl, rfl⟩ k0_ (by decide) (mk9 k0_) rfl hSt hTb hP hS rfl hl.1 rfl (Nat.le_of_ble_eq_true rfl) dL_law_1414 ⟨hc1, hc2⟩ (fun rr_ M_361 H locs hq hP hS => ?_)
      obtain ⟨r_362, rfl, hw⟩ := hq
      refine lv_aload_n hx hb dL_law_1417 rfl (lv_at hl 2 rfl) ?_
      refine mw_V (As := []) (rest := [.int r_362]) (T := TX10) (N := 25) (n := 0) ⟨hx, hb, hml, hown, hts⟩ (so_X10_restore l G 120 M_361 _ hw) wm_R_law_165 wi_yX10_restore wv_yX10_restore wn_RX10 wc_yX10_restore (by decide) ⟨Nat.le_of_ble_eq_true rfl, Nat.le_of_ble_eq_true rfl⟩ ⟨rfl, rfl⟩ k120_ (by decide) (mk10 k120_) rfl hSt hTb hP hS rfl hl.1 rfl (Nat.le_of_ble_eq_true rfl) dL_law_1418 ⟨hc1, hc2⟩ (fun rr_ M_363 H locs hq hP hS => ?_)
      obtain ⟨r_364, rfl, hw⟩ := hq
      obtain ⟨ceq, hw⟩ := hw
      refine lv_icmp_eq (tgt := 1508) hx hb dL_law_1421 (by decide) (fun _ => ?_) (fun cne => absurd ceq cne)
      exact J_1508 v3 M_363 _ _ _ rfl hw hP hS (lv_sub hl [0, 1, 2, 3] rfl)
    by_cases c_366 : ((xs v3.toNatClampNeg) &&& 63) = 36
    · have hw := hw.2.2.2.2.2.2.2.2.2.2.2.2.2.2.2.2.2.2.2.2.2.2.2.2.2.2.2.2.2.2.2.2.2.2.2.2.1 c_366
      refine mw_tcase (tgt := 1426) (off := 1393) hx hb dL_law_33 c_366 (by decide) ?_
      refine lv_aload_n hx hb dL_law_1426 rfl (lv_at hl 1 rfl) ?_
      refine lv_aload_n hx hb dL_law_1427 rfl (lv_at hl 0 rfl) ?_
      refine lv_iload_n hx hb dL_law_1428 rfl (lv_at hl 3 rfl) ?_
      refine lv_iconst (v := 1) hx hb dL_law_1429 (by decide) ?_
      refine lv_iadd hx hb dL_law_1430 ?_
      refine va_sld hx hb hX hbl hbA hS hv1 dL_law_1431 ?_
      refine mw_V (As := [.int (xs (v3 + 1).toNatClampNeg)]) (rest := []) (T := TX9) (N := 8) (n := 1) ⟨hx, hb, hml, hown, hts⟩ (so_X9_tell l G 0 (xs (v3 + 1).toNatClampNeg) M _ hw) wm_R_law_166 wi_yX9_tell wv_yX9_tell wn_RX9 wc_yX9_tell (by decide) ⟨Nat.le_of_ble_eq_true rfl, Nat.le_of_ble_eq_true rfl⟩ ⟨rfl, rfl⟩ k0_ (by decide) (mk9 k0_) rfl hSt hTb hP hS rfl hl.1 rfl (Nat.le_of_ble_eq_true rfl) dL_law_1432 ⟨hc1, hc2⟩ (fun rr_ M_368 H locs hq hP hS => ?_)
      obtain ⟨r_369, rfl, hw⟩ := hq
      refine lv_aload_n hx hb dL_law_1435 rfl (lv_at hl 2 rfl) ?_
      refine lv_aload_n hx hb dL_law_1436 rfl (lv_at hl 0 rfl) ?_
      refine lv_iload_n hx hb dL_law_1437 rfl (lv_at hl 3 rfl) ?_
      refine lv_iconst (v := 1) hx hb dL_law_1438 (by decide) ?_
      refine lv_iadd hx hb dL_law_1439 ?_
      refine va_sld hx hb hX hbl hbA hS hv1 dL_law_1440 ?_
      refine mw_V (As := [.int (xs (v3 + 1).toNatClampNeg)]) (rest := [.int r_369]) (T := TX10) (N := 25) (n := 1) ⟨hx, hb, hml, hown, hts⟩ (so_X10_tell l G 120 (xs (v3 + 1).toNatClampNeg) M_368 _ hw) wm_R_law_169 wi_yX10_tell wv_yX10_tell wn_RX10 wc_yX10_tell (by decide) ⟨Nat.le_of_ble_eq_true rfl, Nat.le_of_ble_eq_true rfl⟩ ⟨rfl, rfl⟩ k120_ (by decide) (mk10 k120_) rfl hSt hTb hP hS rfl hl.1 rfl (Nat.le_of_ble_eq_true rfl) dL_law_1441 ⟨hc1, hc2⟩ (fun rr_ M_371 H locs hq hP hS => ?_)
      obtain ⟨r_372, rfl, hw⟩ := hq
      obtain ⟨ceq, hw⟩ := hw
      refine lv_icmp_eq (tgt := 1508) hx hb dL_law_1444 (by decide) (fun _ => ?_) (fun cne => absurd ceq cne)
      exact J_1508 v3 M_371 _ _ _ rfl hw hP hS (lv_sub hl [0, 1, 2, 3] rfl)
    by_cases c_374 : ((xs v3.toNatClampNeg) &&& 63) = 37
    · have hw := hw.2.2.2.2.2.2.2.2.2.2.2.2.2.2.2.2.2.2.2.2.2.2.2.2.2.2.2.2.2.2.2.2.2.2.2.2.2.1 c_374
      refine mw_tcase (tgt := 1449) (off := 1416) hx hb dL_law_33 c_374 (by decide) ?_
      refine lv_aload_n hx hb dL_law_1449 rfl (lv_at hl 1 rfl) ?_
      refine mw_V (As := []) (rest := []) (T := TX9) (N := 8) (n := 0) ⟨hx, hb, hml, hown, hts⟩ (so_X9_check l G 0 M _ hw) wm_R_law_170 wi_yX9_check wv_yX9_check wn_RX9 wc_yX9_check (by decide) ⟨Nat.le_of_ble_eq_true rfl, Nat.le_of_ble_eq_true rfl⟩ ⟨rfl, rfl⟩ k0_ (by decide) (mk9 k0_) rfl hSt hTb hP hS rfl hl.1 rfl (Nat.le_of_ble_eq_true rfl) dL_law_1450 ⟨hc1, hc2⟩ (fun rr_ M_375 H locs hq hP hS => ?_)
      obtain ⟨r_376, rfl, hw⟩ := hq
      refine lv_aload_n hx hb dL_law_1453 rfl (lv_at hl 2 rfl) ?_
      refine mw_V (As := []) (rest := [.int r_376]) (T := TX10) (N := 25) (n := 0) ⟨hx, hb, hml, hown, hts⟩ (so_X10_check l G 120 M_375 _ hw) wm_R_law_173 wi_yX10_check wv_yX10_check wn_RX10 wc_yX10_check (by decide) ⟨Nat.le_of_ble_eq_true rfl, Nat.le_of_ble_eq_true rfl⟩ ⟨rfl, rfl⟩ k120_ (by decide) (mk10 k120_) rfl hSt hTb hP hS rfl hl.1 rfl (Nat.le_of_ble_eq_true rfl) dL_law_1454 ⟨hc1, hc2⟩ (fun rr_ M_377 H locs hq hP hS => ?_)
      obtain ⟨r_378, rfl, hw⟩ := hq
      obtain ⟨ceq, hw⟩ := hw
      refine lv_icmp_eq (tgt := 1508) hx hb dL_law_1457 (by decide) (fun _ => ?_) (fun cne => absurd ceq cne)
      exact J_1508 v3 M_377 _ _ _ rfl hw hP hS (lv_sub hl [0, 1, 2, 3] rfl)
    by_cases c_380 : ((xs v3.toNatClampNeg) &&& 63) = 38
    · have hw := hw.2.2.2.2.2.2.2.2.2.2.2.2.2.2.2.2.2.2.2.2.2.2.2.2.2.2.2.2.2.2.2.2.2.2.2.2.2.2.1 c_380
      refine mw_tcase (tgt := 1462) (off := 1429) hx hb dL_law_33 c_380 (by decide) ?_
      refine lv_aload_n hx hb dL_law_1462 rfl (lv_at hl 1 rfl) ?_
      refine lv_aload_n hx hb dL_law_1463 rfl (lv_at hl 0 rfl) ?_
      refine lv_iload_n hx hb dL_law_1464 rfl (lv_at hl 3 rfl) ?_
      refine lv_iconst (v := 1) hx hb dL_law_1465 (by decide) ?_
      refine lv_iadd hx hb dL_law_1466 ?_
      refine va_sld hx hb hX hbl hbA hS hv1 dL_law_1467 ?_
      refine mw_V (As := [.int (xs (v3 + 1).toNatClampNeg)]) (rest := []) (T := TX9) (N := 8) (n := 1) ⟨hx, hb, hml, hown, hts⟩ (so_X9_count l G 0 (xs (v3 + 1).toNatClampNeg) M _ hw) wm_R_law_174 wi_yX9_count wv_yX9_count wn_RX9 wc_yX9_count (by decide) ⟨Nat.le_of_ble_eq_true rfl, Nat.le_of_ble_eq_true rfl⟩ ⟨rfl, rfl⟩ k0_ (by decide) (mk9 k0_) rfl hSt hTb hP hS rfl hl.1 rfl (Nat.le_of_ble_eq_true rfl) dL_law_1468 ⟨hc1, hc2⟩ (fun rr_ M_382 H locs hq hP hS => ?_)
      obtain ⟨r_383, rfl, hw⟩ := hq
      refine lv_aload_n hx hb dL_law_1471 rfl (lv_at hl 2 rfl) ?_
      refine lv_aload_n hx hb dL_law_1472 rfl (lv_at hl 0 rfl) ?_
      refine lv_iload_n hx hb dL_law_1473 rfl (lv_at hl 3 rfl) ?_
      refine lv_iconst (v := 1) hx hb dL_law_1474 (by decide) ?_
      refine lv_iadd hx hb dL_law_1475 ?_
      refine va_sld hx hb hX hbl hbA hS hv1 dL_law_1476 ?_
      refine mw_V (As := [.int (xs (v3 + 1).toNatClampNeg)]) (rest := [.int r_383]) (T := TX10) (N := 25) (n := 1) ⟨hx, hb, hml, hown, hts⟩ (so_X10_count l G 120 (xs (v3 + 1).toNatClampNeg) M_382 _ hw) wm_R_law_177 wi_yX10_count wv_yX10_count wn_RX10 wc_yX10_count (by decide) ⟨Nat.le_of_ble_eq_true rfl, Nat.le_of_ble_eq_true rfl⟩ ⟨rfl, rfl⟩ k120_ (by decide) (mk10 k120_) rfl hSt hTb hP hS rfl hl.1 rfl (Nat.le_of_ble_eq_true rfl) dL_law_1477 ⟨hc1, hc2⟩ (fun rr_ M_385 H locs hq hP hS => ?_)
      obtain ⟨r_386, rfl, hw⟩ := hq
      obtain ⟨ceq, hw⟩ := hw
      refine lv_icmp_eq (tgt := 1508) hx hb dL_law_1480 (by decide) (fun _ => ?_) (fun cne => absurd ceq cne)
      exact J_1508 v3 M_385 _ _ _ rfl hw hP hS (lv_sub hl [0, 1, 2, 3] rfl)
    by_cases c_388 : ((xs v3.toNatClampNeg) &&& 63) = 39
    · have hw := hw.2.2.2.2.2.2.2.2.2.2.2.2.2.2.2.2.2.2.2.2.2.2.2.2.2.2.2.2.2.2.2.2.2.2.2.2.2.2.2.1 c_388
      refine mw_tcase (tgt := 1485) (off := 1452) hx hb dL_law_33 c_388 (by decide) ?_
      refine lv_aload_n hx hb dL_law_1485 rfl (lv_at hl 1 rfl) ?_
      refine lv_aload_n hx hb dL_law_1486 rfl (lv_at hl 0 rfl) ?_
      refine lv_iload_n hx hb dL_law_1487 rfl (lv_at hl 3 rfl) ?_
      refine lv_iconst (v := 1) hx hb dL_law_1488 (by decide) ?_
      refine lv_iadd hx hb dL_law_1489 ?_
      refine va_sld hx hb hX hbl hbA hS hv1 dL_law_1490 ?_
      refine mw_V (As := [.int (xs (v3 + 1).toNatClampNeg)]) (rest := []) (T := TX9) (N := 8) (n := 1) ⟨hx, hb, hml, hown, hts⟩ (so_X9_told l G 0 (xs (v3 + 1).toNatClampNeg) M _ hw) wm_R_law_178 wi_yX9_told wv_yX9_told wn_RX9 wc_yX9_told (by decide) ⟨Nat.le_of_ble_eq_true rfl, Nat.le_of_ble_eq_true rfl⟩ ⟨rfl, rfl⟩ k0_ (by decide) (mk9 k0_) rfl hSt hTb hP hS rfl hl.1 rfl (Nat.le_of_ble_eq_true rfl) dL_law_1491 ⟨hc1, hc2⟩ (fun rr_ M_390 H locs hq hP hS => ?_)
      obtain ⟨r_391, rfl, hw⟩ := hq
      refine lv_aload_n hx hb dL_law_1494 rfl (lv_at hl 2 rfl) ?_
      refine lv_aload_n hx hb dL_law_1495 rfl (lv_at hl 0 rfl) ?_
      refine lv_iload_n hx hb dL_law_1496 rfl (lv_at hl 3 rfl) ?_
      refine lv_iconst (v := 1) hx hb dL_law_1497 (by decide) ?_
      refine lv_iadd hx hb dL_law_1498 ?_
      refine va_sld hx hb hX hbl hbA hS hv1 dL_law_1499 ?_
      refine mw_V (As := [.int (xs (v3 + 1).toNatClampNeg)]) (rest := [.int r_391]) (T := TX10) (N := 25) (n := 1) ⟨hx, hb, hml, hown, hts⟩ (so_X10_told l G 120 (xs (v3 + 1).toNatClampNeg) M_390 _ hw) wm_R_law_181 wi_yX10_told wv_yX10_told wn_RX10 wc_yX10_told (by decide) ⟨Nat.le_of_ble_eq_true rfl, Nat.le_of_ble_eq_true rfl⟩ ⟨rfl, rfl⟩ k120_ (by decide) (mk10 k120_) rfl hSt hTb hP hS rfl hl.1 rfl (Nat.le_of_ble_eq_true rfl) dL_law_1500 ⟨hc1, hc2⟩ (fun rr_ M_393 H locs hq hP hS => ?_)
      obtain ⟨r_394, rfl, hw⟩ := hq
      obtain ⟨ceq, hw⟩ := hw
      refine lv_icmp_eq (tgt := 1508) hx hb dL_law_1503 (by decide) (fun _ => ?_) (fun cne => absurd ceq cne)
      exact J_1508 v3 M_393 _ _ _ rfl hw hP hS (lv_sub hl [0, 1, 2, 3] rfl)
    have hw := hw.2.2.2.2.2.2.2.2.2.2.2.2.2.2.2.2.2.2.2.2.2.2.2.2.2.2.2.2.2.2.2.2.2.2.2.2.2.2.2.2 c_4 c_14 c_24 c_34 c_44 c_56 c_70 c_80 c_92 c_102 c_112 c_124 c_132 c_146 c_154 c_162 c_174 c_182 c_188 c_198 c_210 c_220 c_226 c_238 c_246 c_258 c_270 c_278 c_290 c_298 c_310 c_322 c_338 c_346 c_354 c_360 c_366 c_374 c_380 c_388
    refine mw_tdef (keys := [0, 1, 2, 3, 4, 5, 6, 7, 8, 9, 10, 11, 12, 13, 14, 15, 16, 17, 18, 19, 20, 21, 22, 23, 24, 25, 26, 27, 28, 29, 30, 31, 32, 33, 34, 35, 36, 37, 38, 39]) (tgt := 1508) hx hb dL_law_33 (List.forall_mem_cons.mpr ⟨c_4, (List.forall_mem_cons.mpr ⟨c_14, (List.forall_mem_cons.mpr ⟨c_24, (List.forall_mem_cons.mpr ⟨c_34, (List.forall_mem_cons.mpr ⟨c_44, (List.forall_mem_cons.mpr ⟨c_56, (List.forall_mem_cons.mpr ⟨c_70, (List.forall_mem_cons.mpr ⟨c_80, (List.forall_mem_cons.mpr ⟨c_92, (List.forall_mem_cons.mpr ⟨c_102, (List.forall_mem_cons.mpr ⟨c_112, (List.forall_mem_cons.mpr ⟨c_124, (List.forall_mem_cons.mpr ⟨c_132, (List.forall_mem_cons.mpr ⟨c_146, (List.forall_mem_cons.mpr ⟨c_154, (List.forall_mem_cons.mpr ⟨c_162, (List.forall_mem_cons.mpr ⟨c_174, (List.forall_mem_cons.mpr ⟨c_182, (List.forall_mem_cons.mpr ⟨c_188, (List.forall_mem_cons.mpr ⟨c_198, (List.forall_mem_cons.mpr ⟨c_210, (List.forall_mem_cons.mpr ⟨c_220, (List.forall_mem_cons.mpr ⟨c_226, (List.forall_mem_cons.mpr ⟨c_238, (List.forall_mem_cons.mpr ⟨c_246, (List.forall_mem_cons.mpr ⟨c_258, (List.forall_mem_cons.mpr ⟨c_270, (List.forall_mem_cons.mpr ⟨c_278, (List.forall_mem_cons.mpr ⟨c_290, (List.forall_mem_cons.mpr ⟨c_298, (List.forall_mem_cons.mpr ⟨c_310, (List.forall_mem_cons.mpr ⟨c_322, (List.forall_mem_cons.mpr ⟨c_338, (List.forall_mem_cons.mpr ⟨c_346, (List.forall_mem_cons.mpr ⟨c_354, (List.forall_mem_cons.mpr ⟨c_360, (List.forall_mem_cons.mpr ⟨c_366, (List.forall_mem_cons.mpr ⟨c_374, (List.forall_mem_cons.mpr ⟨c_380, (List.forall_mem_cons.mpr ⟨c_388, (fun _ h_ => absurd h_ List.not_mem_nil)⟩)⟩)⟩)⟩)⟩)⟩)⟩)⟩)⟩)⟩)⟩)⟩)⟩)⟩)⟩)⟩)⟩)⟩)⟩)⟩)⟩)⟩)⟩)⟩)⟩)⟩)⟩)⟩)⟩)⟩)⟩)⟩)⟩)⟩)⟩)⟩)⟩)⟩)⟩)⟩) (by decide) (by decide) ?_
    exact J_1508 v3 M _ _ _ rfl hw hP hS (lv_sub hl [0, 1, 2, 3] rfl)

