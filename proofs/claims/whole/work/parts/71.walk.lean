/-! ranks: in how many ways a SUM goes on -/
def capN (w : LW) : Nat := (timesN w).toNat
def hadN (i b o v : Nat) : Nat := if 0 < i ∧ b = v then o else 0
def WN (w : LW) (i b o n v : Nat) : Nat :=
  if n < v then 0
  else if w 0 = 2 then (if 0 < i ∧ (b : Int) - (v : Int) < gapN w (b : Int) then 0 else gB (gapF w) (w 4).toNat v n)
  else if w 0 = 3 then (if w 1 ≤ (i : Int) ∨ w 2 < (v : Int) then 0 else BB ((w 1).toNat - i - 1) v (n - v))
  else if alB w v then runs (TB (alB w) (capN w) (v - 1)) v n (capN w - hadN i b o v) else 0
def sW (w : LW) (i b o n t : Nat) : Nat := sN (fun u => WN w i b o n (u + 1)) t
theorem sN_tail {f : Nat → Nat} {k : Nat} : ∀ n : Nat, k ≤ n → (∀ i, k ≤ i → i < n → f i = 0) → sN f n = sN f k
  | 0, h, _ => by rw [show k = 0 by omega]
  | n + 1, h, hz => by
    by_cases e : k = n + 1
    · rw [e]
    · show sN f n + f n = _
      rw [sN_tail n (by omega) (fun i a b => hz i a (by omega)), hz n (by omega) (by omega), Nat.add_zero]
theorem WN_big {w : LW} {i b o n v : Nat} (h : n < v) : WN w i b o n v = 0 := by
  unfold WN
  rw [if_pos h]
theorem sW_big {w : LW} {i b o n t : Nat} (h : n ≤ t) : sW w i b o n t = sW w i b o n n := sN_tail t h (fun j a _ => WN_big (by omega))
theorem WN_le {w : LW} (ok : lawOK w) (hw : w 0 ≤ 3) {i b o n v : Nat} (hn : n ≤ 400) (hv : 1 ≤ v) : WN w i b o n v ≤ PB v n := by
  obtain ⟨k, rfl⟩ : ∃ k, v = k + 1 := ⟨v - 1, by omega⟩
  unfold WN
  split
  · omega
  · split
    · split
      · omega
      · have h1 := GB_rec (gap := gapF w) (least := (w 4).toNat) (k := k) (n := n)
        have h2 := GB_le (gap := gapF w) (least := (w 4).toNat) (k := k + 1) (n := n) hn
        omega
    · split
      · split
        · omega
        · have h1 := BB_le ((w 1).toNat - i - 1) (k + 1) (n - (k + 1)) (by omega)
          have h2 := PB_rec (k := k) (n := n) hn
          rw [if_pos (by omega)] at h2
          omega
      · split
        · rename_i ha
          have ht := timesN_bd ok (by unfold lawOK canB at ok; omega)
          have h1 := runs_le (F := TB (alB w) (capN w) k) (G := TB (alB w) (capN w) k) (v := k + 1) (n := n) (fun _ _ => Nat.le_refl _) (show capN w - hadN i b o (k + 1) ≤ capN w by omega)
          have h2 : TB (alB w) (capN w) (k + 1) n = TB (alB w) (capN w) k n + (if alB w (k + 1) then runs (TB (alB w) (capN w) k) (k + 1) n (capN w) else 0) := rfl
          rw [if_pos ha] at h2
          have h3 := TB_le (al := alB w) (show capN w ≤ 400 by unfold capN; omega) (k + 1) n
          rw [show k + 1 - 1 = k by omega]
          omega
        · omega
theorem WN_small {w : LW} (ok : lawOK w) (hw : w 0 ≤ 3) {i b o n v : Nat} (hn : n ≤ 400) (hv : 1 ≤ v) : WN w i b o n v < 9223372036854775808 := by
  by_cases c : n < v
  · rw [WN_big c]; omega
  · exact Nat.lt_of_le_of_lt (WN_le ok hw hn hv) (PB_bound (by omega) hn)
/-- by the laws 0 and 1: with no part that is used up already -/
theorem sW_parts {w : LW} (h2 : w 0 ≠ 2) (h3 : w 0 ≠ 3) {i b o n : Nat} (hn : n ≠ 0) : ∀ t : Nat, (i = 0 ∨ t < b) → sW w i b o n t = TB (alB w) (capN w) t n
  | 0, _ => by
    show 0 = if n = 0 then 1 else 0
    rw [if_neg hn]
  | t + 1, h => by
    show sW w i b o n t + WN w i b o n (t + 1) = TB (alB w) (capN w) t n + (if alB w (t + 1) then runs (TB (alB w) (capN w) t) (t + 1) n (capN w) else 0)
    rw [sW_parts h2 h3 hn t (by omega)]
    have e : hadN i b o (t + 1) = 0 := by unfold hadN; rw [if_neg (by omega)]
    unfold WN
    rw [e, if_neg h2, if_neg h3, show t + 1 - 1 = t by omega, Nat.sub_zero]
    by_cases c : n < t + 1
    · rw [if_pos c, runs_lt (by omega)]
      split <;> rfl
    · rw [if_neg c]
theorem sW_gaps {w : LW} (h2 : w 0 = 2) (h4 : 1 ≤ w 4) {i b o n : Nat} (hn : n ≠ 0) : ∀ t : Nat, (i = 0 ∨ (t : Int) ≤ (b : Int) - gapN w (b : Int)) → sW w i b o n t = GB (gapF w) (w 4).toNat t n
  | 0, _ => by
    show 0 = _
    rw [GB_zero, if_neg hn]
  | t + 1, h => by
    show sW w i b o n t + WN w i b o n (t + 1) = _
    rw [sW_gaps h2 h4 hn t (by omega), GB_rec]
    have e : WN w i b o n (t + 1) = gB (gapF w) (w 4).toNat (t + 1) n := by
      unfold WN
      rw [if_pos h2, if_neg (show ¬ (0 < i ∧ (b : Int) - ((t + 1 : Nat) : Int) < gapN w (b : Int)) by omega)]
      split
      · unfold gB; rw [if_neg (by omega)]
      · rfl
    rw [e]
/-- what goes on with v is what goes on behind it -/
theorem WN_next {w : LW} (ok : lawOK w) (hw : w 0 ≤ 3) {i b o n v : Nat} (hv : 1 ≤ v) (hvn : v < n) : WN w i b o n v ≤ sW w (i + 1) v (hadN i b o v + 1) (n - v) v := by
  have hk0 : 0 ≤ w 0 := by unfold lawOK canB at ok; omega
  by_cases h2 : w 0 = 2
  · have hg := gapN_bd (w := w) (v := (v : Int)) ok h2
    have h4 : 1 ≤ w 4 := by unfold lawOK canB at ok; omega
    have e : sW w (i + 1) v (hadN i b o v + 1) (n - v) v = GB (gapF w) (w 4).toNat (v - gapF w v) (n - v) := by
      have e1 := sW_gaps h2 h4 (i := i + 1) (b := v) (o := hadN i b o v + 1) (n := n - v) (by omega) (v - gapF w v)
      by_cases c : (gapF w v : Int) ≤ v
      · rw [← e1 (by unfold gapF at c ⊢; omega)]
        refine sN_tail v (by omega) (fun j a _ => ?_)
        unfold WN
        rw [if_pos h2]
        split
        · rfl
        · rw [if_pos (by unfold gapF at a c; omega)]
      · have e0 : v - gapF w v = 0 := by omega
        rw [e0, GB_zero, if_neg (by omega)]
        have : sW w (i + 1) v (hadN i b o v + 1) (n - v) v = sW w (i + 1) v (hadN i b o v + 1) (n - v) 0 := sN_tail v (by omega) (fun j a _ => by
          unfold WN
          rw [if_pos h2]
          split
          · rfl
          · rw [if_pos (by unfold gapF at c; omega)])
        rw [this]
        rfl
    rw [e]
    unfold WN
    rw [if_pos h2, if_neg (by omega)]
    split
    · omega
    · unfold gB
      split
      · exact Nat.le_refl _
      · omega
  · by_cases h3 : w 0 = 3
    · unfold WN
      rw [if_neg h2, if_pos h3, if_neg (show ¬ n < v by omega)]
      split
      · omega
      · rename_i hc
        have hw1 : 0 ≤ w 1 := by unfold lawOK canB at ok; omega
        generalize hp : (w 1).toNat - i - 1 = p
        cases p with
        | zero => rw [BB_p0 (by omega)]; exact Nat.zero_le _
        | succ p =>
          show (if n - v = 0 then 1 else _) ≤ _
          rw [if_neg (by omega)]
          refine sN_le v (fun u hu => ?_)
          split
          · have : WN w (i + 1) v (hadN i b o v + 1) (n - v) (u + 1) = BB p (u + 1) (n - v - (u + 1)) := by
              unfold WN
              rw [if_neg (by omega), if_neg h2, if_pos h3, if_neg (by omega), show (w 1).toNat - (i + 1) - 1 = p by omega]
            rw [this]
            exact Nat.le_refl _
          · exact Nat.zero_le _
    · obtain ⟨k, rfl⟩ : ∃ k, v = k + 1 := ⟨v - 1, by omega⟩
      have e : sW w (i + 1) (k + 1) (hadN i b o (k + 1) + 1) (n - (k + 1)) (k + 1) = TB (alB w) (capN w) k (n - (k + 1)) + WN w (i + 1) (k + 1) (hadN i b o (k + 1) + 1) (n - (k + 1)) (k + 1) := by
        show sW w (i + 1) (k + 1) _ (n - (k + 1)) k + _ = _
        rw [sW_parts h2 h3 (by omega) k (by omega)]
      rw [e]
      unfold WN
      rw [if_neg h2, if_neg h3, if_neg (show ¬ n < k + 1 by omega), if_neg h2, if_neg h3]
      have e2 : hadN (i + 1) (k + 1) (hadN i b o (k + 1) + 1) (k + 1) = hadN i b o (k + 1) + 1 := by
        show (if 0 < i + 1 ∧ k + 1 = k + 1 then hadN i b o (k + 1) + 1 else 0) = _
        rw [if_pos ⟨by omega, rfl⟩]
      rw [e2, show k + 1 - 1 = k by omega]
      by_cases ha : alB w (k + 1) = true
      · rw [if_pos ha, if_pos ha]
        generalize hm : capN w - hadN i b o (k + 1) = m
        cases m with
        | zero => exact Nat.zero_le _
        | succ m =>
          rw [runs_shift (by omega), show capN w - (hadN i b o (k + 1) + 1) = m by omega]
          split
          · rw [runs_lt (by omega)]; exact Nat.le_refl _
          · exact Nat.le_refl _
      · rw [if_neg ha]
        exact Nat.zero_le _
/-- all of them -/
theorem cnt_le {w : LW} (ok : lawOK w) (hw : w 0 ≤ 3) {n : Nat} (hn : n ≠ 0) (hn4 : n ≤ 400) : ∃ m : Nat, cntS w n = Int64.ofNat m ∧ m ≤ sW w 0 n 0 n n ∧ m < 9223372036854775808 := by
  have hk0 : 0 ≤ w 0 := by unfold lawOK canB at ok; omega
  unfold cntS
  by_cases h3 : w 0 = 3
  · rw [if_neg (by omega), if_pos h3]
    refine ⟨_, rfl, ?_, ?_⟩
    · have hw1 : 0 ≤ w 1 ∧ 0 ≤ w 2 := by unfold lawOK canB at ok; omega
      generalize hp : (w 1).toNat = p
      cases p with
      | zero => rw [BB_p0 hn]; exact Nat.zero_le _
      | succ p =>
        show (if n = 0 then 1 else _) ≤ _
        rw [if_neg hn]
        have e : ∀ u : Nat, u < (w 2).toNat → (if u + 1 ≤ n then BB p (u + 1) (n - (u + 1)) else 0) = WN w 0 n 0 n (u + 1) := fun u hu => by
          unfold WN
          by_cases c : u + 1 ≤ n
          · rw [if_pos c, if_neg (by omega), if_neg (by omega), if_pos h3, if_neg (by omega), show (w 1).toNat - 0 - 1 = p by omega]
          · rw [if_neg c, if_pos (by omega)]
        rw [sN_ext _ e]
        by_cases c : (w 2).toNat ≤ n
        · exact sN_mono c
        · exact Nat.le_of_eq (sW_big (t := (w 2).toNat) (by omega))
    · exact Nat.lt_of_le_of_lt (Nat.le_trans (BB_le _ _ _ hn4) (PB_mono (m := 400) (by unfold lawOK canB at ok; omega))) (PB_bound (by omega) hn4)
  · rw [if_pos (by omega)]
    refine ⟨_, rfl, ?_, ?_⟩
    · unfold tabN
      by_cases h2 : w 0 = 2
      · rw [if_pos h2, sW_gaps h2 (by unfold lawOK canB at ok; omega) hn n (Or.inl rfl)]
        exact Nat.le_refl _
      · rw [if_neg h2, sW_parts h2 h3 hn n (Or.inl rfl)]
        exact Nat.le_refl _
    · unfold tabN
      split
      · exact Nat.lt_of_le_of_lt (GB_le hn4) (PB_bound hn4 hn4)
      · have ht := timesN_bd ok (by unfold lawOK canB at ok; omega)
        exact Nat.lt_of_le_of_lt (TB_le (by omega) _ _) (PB_bound hn4 hn4)
/-- the part that comes, and what is left of the rank -/
def pick (W : Nat → Nat) : Nat → Nat → Nat × Nat
  | 0, r => (0, r)
  | t + 1, r => if r < W (t + 1) then (t + 1, r) else pick W t (r - W (t + 1))
theorem pick_ok {W : Nat → Nat} : ∀ (t r : Nat), r < sN (fun u => W (u + 1)) t → 1 ≤ (pick W t r).1 ∧ (pick W t r).1 ≤ t ∧ (pick W t r).2 < W (pick W t r).1
  | 0, r, h => by
    have : sN (fun u => W (u + 1)) 0 = 0 := rfl
    omega
  | t + 1, r, h => by
    have h' : r < sN (fun u => W (u + 1)) t + W (t + 1) := h
    by_cases c : r < W (t + 1)
    · have e : pick W (t + 1) r = (t + 1, r) := by
        show (if r < W (t + 1) then (t + 1, r) else pick W t (r - W (t + 1))) = _
        rw [if_pos c]
      rw [e]
      exact ⟨by show 1 ≤ t + 1; omega, Nat.le_refl _, c⟩
    · have e : pick W (t + 1) r = pick W t (r - W (t + 1)) := by
        show (if r < W (t + 1) then (t + 1, r) else pick W t (r - W (t + 1))) = _
        rw [if_neg c]
      rw [e]
      obtain ⟨a, b, d⟩ := pick_ok (W := W) t (r - W (t + 1)) (by omega)
      exact ⟨a, by omega, d⟩
theorem pick_low {W : Nat → Nat} {k : Nat} : ∀ (t r : Nat), k ≤ t → (∀ v, k < v → v ≤ t → W v = 0) → pick W t r = pick W k r
  | 0, r, h, _ => by rw [show k = 0 by omega]
  | t + 1, r, h, hz => by
    by_cases e : k = t + 1
    · rw [e]
    · show (if r < W (t + 1) then (t + 1, r) else pick W t (r - W (t + 1))) = _
      rw [hz (t + 1) (by omega) (Nat.le_refl _), if_neg (by omega), Nat.sub_zero]
      exact pick_low t r (by omega) (fun v a b => hz v a (by omega))
