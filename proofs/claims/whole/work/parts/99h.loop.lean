/-! the law's loop, and the law from its start -/
theorem law_loop {scr : Int → Int} {len k1 k2 : Nat} (hr : ∀ j, -2147483648 ≤ scr j ∧ scr j ≤ 2147483647) (il : len ≤ 3584) : ∀ (e : Nat) (i : Int) (σ : ZM) (S : Int → List Int) (N : List (Int × List Int)) (L : Int → LW) (R : Int → SQ), 0 ≤ i → i ≤ 4000 → (len : Int) ≤ i + 7 * e → NN N → CI σ S N L R → MM σ S N L R → SC σ scr len → WP m_Law__law 18 [zr 1, zr 2, zr 192, zi i] [] σ (k1, k2) (fun _ _ => True) := by
  intro e
  induction e with
  | zero =>
    intro i σ S N L R i0 i4 ie nn c m sc
    have hl : ((zS σ 1).2 : Int) = (len : Int) := by rw [sc.1]
    exact r_Law__law_18 ⟨Or.inr rfl, by omega, fun _ => ⟨rfl, trivial⟩, fun w => by omega⟩
  | succ e ih =>
    intro i σ S N L R i0 i4 ie nn c m sc
    have hl : ((zS σ 1).2 : Int) = (len : Int) := by rw [sc.1]
    refine r_Law__law_18 ⟨Or.inr rfl, by omega, fun _ => ⟨rfl, trivial⟩, fun w => ⟨Or.inr ⟨rfl, by omega, by omega⟩, ?_⟩⟩
    have i6 : i + 6 < (len : Int) := by omega
    have next : ∀ σ' S' N' L' R', NN N' → CI σ' S' N' L' R' → MM σ' S' N' L' R' → SC σ' scr len → WP m_Law__law 1338 [zr 1, zr 2, zr 192, zi i] [] σ' (k1, k2) (fun _ _ => True) := fun σ' S' N' L' R' n' c' m' s' => r_Law__law_1338 ⟨by omega, ih (i + 7) σ' S' N' L' R' (by omega) (by omega) (by omega) n' c' m' s'⟩
    exact ⟨fun _ => next σ S N L R nn c m sc, fun _ => lw_part hr nn c m sc i0 i6 il next, fun _ => lw_clear hr nn c m sc i0 i6 il next, fun _ => lw_copy hr nn c m sc i0 i6 il next, fun _ => lw_sheet hr nn c m sc i0 i6 il next, fun _ => lw_hook hr nn c m sc i0 i6 il next, fun _ => lw_next hr nn c m sc i0 i6 il next, fun _ => lw_undo hr nn c m sc i0 i6 il next, fun _ => lw_law hr nn c m sc i0 i6 il next, fun _ => lw_clash hr nn c m sc i0 i6 il next, fun _ => lw_count hr nn c m sc i0 i6 il next, fun _ => lw_rank hr nn c m sc i0 i6 il next, fun _ => lw_tell hr nn c m sc i0 i6 il next, fun _ => lw_lead hr nn c m sc i0 i6 il next, fun _ => lw_back hr nn c m sc i0 i6 il next, fun _ => lw_core hr nn c m sc i0 i6 il next, fun _ => lw_quotient hr nn c m sc i0 i6 il next, fun _ => lw_join hr nn c m sc i0 i6 il next, fun _ => lw_peel hr nn c m sc i0 i6 il next, fun _ => lw_fillings hr nn c m sc i0 i6 il next, fun _ => lw_filling hr nn c m sc i0 i6 il next, fun _ => lw_heap hr nn c m sc i0 i6 il next, fun _ => lw_one hr nn c m sc i0 i6 il next, fun _ => lw_factors hr nn c m sc i0 i6 il next, fun _ => lw_signs hr nn c m sc i0 i6 il next, fun _ => lw_counts hr nn c m sc i0 i6 il next, fun _ => lw_combine hr nn c m sc i0 i6 il next, fun _ => lw_series hr nn c m sc i0 i6 il next, fun _ => lw_same hr nn c m sc i0 i6 il next, fun _ => lw_told hr nn c m sc i0 i6 il next, trivial⟩
theorem i32 (x : Int32) : -2147483648 ≤ x.toInt ∧ x.toInt ≤ 2147483647 := by
  have h1 := x.le_toInt
  have h2 := x.toInt_lt
  omega
theorem law_pure {L : Nat} {xs : Nat → Int32} (hL : L ≤ 3584) : WP 0 0 [zr 1, zu, zu, zu] [] (zm0 L xs) (0, 0) (fun _ _ => True) := by
  have h0 : zN (zm0 L xs) = 2 := rfl
  show WP m_Law__law 0 [zr 1, zu, zu, zu] [] (zm0 L xs) (0, 0) (fun _ _ => True)
  refine r_Law__law_0 ?_
  rw [h0]
  refine ⟨by decide, by decide, op_obj h0 (l := oA) (by decide +kernel), c_PP h0 ?_⟩
  have hN : zN (ruO (oLw 8) (zm0 L xs)) = 192 := (opN h0 (oLw 8)).trans (by decide +kernel)
  show (0 + 1 + 189 + 1 ≤ 600000 ∧ 0 + 11 + 194723 + 27 ≤ 7302250) ∧ ((0 + 1 + 189 + 1 + 18 ≤ 600000 ∧ 0 + 11 + 194723 + 27 + 585816 ≤ 7302250) ∧ (zobj (znew (ruO (oLw 8) (zm0 L xs)) 11 27) (zN (ruO (oLw 8) (zm0 L xs))) 11 ∧ WP m_Mod_init 0 [zr (zN (ruO (oLw 8) (zm0 L xs)))] [] (znew (ruO (oLw 8) (zm0 L xs)) 11 27) (0, 0) (fun _ σ5 => WP m_Law__law 18 [zr 1, zr 2, zr (zN (ruO (oLw 8) (zm0 L xs))), zi 0] [] σ5 (0 + 1 + 189 + 1 + 18, 0 + 11 + 194723 + 27 + 585816) (fun _ _ => True))))
  rw [hN]
  refine ⟨by decide, by decide, op_obj h0 (l := oM) (by decide +kernel), c_Mod_192 h0 ?_⟩
  have h1 := op1 h0 oF aF
  exact law_loop (scr := fun j => if 0 ≤ j ∧ j < (L : Int) then (xs j.toNat).toInt else 0) (len := L) (fun j => by
    show -2147483648 ≤ (if 0 ≤ j ∧ j < (L : Int) then (xs j.toNat).toInt else 0) ∧ (if 0 ≤ j ∧ j < (L : Int) then (xs j.toNat).toInt else 0) ≤ 2147483647
    split
    · exact i32 _
    · omega) hL 600 0 (ruO oF (zm0 L xs)) (fun _ => []) [] (fun _ _ => 0) (fun _ _ => 0) (by omega) (by omega) (by omega) (fun e he => by cases he) (i_CI h0) (i_MM h0) ⟨by rw [h1.1]; rfl, fun j => by
      rw [h1.2 j]
      show (if 1 = 1 ∧ 0 ≤ j ∧ j < (L : Int) then (xs j.toNat).toInt else 0) = (if 0 ≤ j ∧ j < (L : Int) then (xs j.toNat).toInt else 0)
      by_cases w : 0 ≤ j ∧ j < (L : Int)
      · rw [if_pos ⟨rfl, w⟩, if_pos w]
      · rw [if_neg (fun v => w v.2), if_neg w]⟩
theorem whole_start {p : Program} {e : Env} {s : State} {m : MethodId} {below : List Frame} {meth : Method} {c : Code} (l : Launch) {b L : Nat} {xs : Nat → Int32} (hL : L ≤ 3584) (C0 : lw_At p s m meth c b L xs) : W p l e room_1 s m #[Value.ref b] below meth c s.heap [] 0 0 (lw_Z below #[Value.ref b] s) (entryFrame m ([Value.ref b] : List Value).toArray 4) :=
  whole_of_pure l hL C0 (law_pure hL)
