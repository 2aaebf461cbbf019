/-! fillings, class: waysToFill -/
def pw64 (x v : Int64) : Nat → Int64
  | 0 => x
  | n + 1 => pw64 x v n * v
def fjP (e : Nat → Int) : Nat → Int64
  | 0 => 1
  | k + 1 => pw64 (fjP e k) (Int64.ofInt ((k : Int) + 2)) (e (k + 2)).toNat
def ab (x : Int) : Int := max x (-x)
theorem t_leastDivisor {Q : ZQ} {σ : ZM} {v : Nat} (v4 : 4 ≤ v) (v30 : v ≤ 30) (q : Q (zi (ldN v : Int)) σ) : WP m_Filler_leastDivisor 0 [zi (v : Int), zu] [] σ (0, 0) Q := by
  have k2 : ∀ (e x : Nat), x + e = 6 → 2 ≤ x → (∀ d < x, 2 ≤ d → v % d ≠ 0) → WP m_Filler_leastDivisor 2 [zi (v : Int), zi (x : Int)] [] σ (0, 0) Q := by
    intro e
    induction e with
    | zero =>
      intro x hx x2 hn
      have st := (ld_stop (v := v) (x := x) (by omega) (by omega) v4 x2 hn).1
      have ex : x = 6 := by omega
      subst ex
      rw [st (by omega)] at q
      exact r_Filler_leastDivisor_2 ⟨by omega, fun _ => q, fun w => by omega⟩
    | succ e ih =>
      intro x hx x2 hn
      have st := ld_stop (v := v) (x := x) (by omega) (by omega) v4 x2 hn
      have e1 : Int.tmod (v : Int) (x : Int) = ((v % x : Nat) : Int) := by rw [Int.tmod_eq_emod_of_nonneg (by omega)]; exact (Int.natCast_emod v x).symm
      have e2 : Int.tdiv (v : Int) (x : Int) = ((v / x : Nat) : Int) := by rw [Int.tdiv_eq_ediv_of_nonneg (by omega)]; exact (Int.natCast_ediv v x).symm
      have e3 : v / x ≤ v := Nat.div_le_self v x
      have e4 : (x : Int) * (x : Int) = ((x * x : Nat) : Int) := (Int.natCast_mul x x).symm
      have e5 : x * x ≤ 25 := by
        have : x = 2 ∨ x = 3 ∨ x = 4 ∨ x = 5 := by omega
        rcases this with w | w | w | w <;> subst w <;> omega
      have i1 := ih (x + 1) (by omega) (by omega)
      clear ih
      refine r_Filler_leastDivisor_2 ?_
      rw [e1, e2, e4]
      clear e1 e2 e4
      generalize hvd : v / x = vd at *
      generalize hvm : v % x = vm at *
      generalize hxx : x * x = xx at *
      refine ⟨by omega, fun w => ?_, fun w => ⟨by omega, by omega, fun c => ⟨by omega, ?_⟩, fun c => ?_⟩⟩
      · rw [st.1 (by omega)] at q
        exact q
      · have := i1 (fun d hd d2 => by
          by_cases c2 : d = x
          · rw [c2, hvm]
            omega
          · exact hn d (by omega) d2)
        rw [Int.natCast_succ] at this
        exact this
      · rw [st.2 (by omega)] at q
        exact q
  exact r_Filler_leastDivisor_0 (k2 4 2 (by omega) (by omega) (fun d hd d2 => by omega))
theorem sm_uab {f : Int → Int} {a w : Int} (a0 : 0 ≤ a) : ∀ n : Nat, sm (fun v => v * ab (up1 f a w v)) n = sm (fun v => v * ab (f v)) n + (if a < (n : Int) then a * (ab w - ab (f a)) else 0)
  | 0 => by rw [if_neg (by omega)]; rfl
  | n + 1 => by
    show sm _ n + (n : Int) * ab (up1 f a w (n : Int)) = sm _ n + (n : Int) * ab (f (n : Int)) + _
    rw [sm_uab a0 n]
    unfold up1
    by_cases c : (n : Int) = a
    · rw [if_neg (by omega), if_pos c, if_pos (by omega), ← c, Int.mul_sub]
      omega
    · rw [if_neg c]
      by_cases c2 : a < (n : Int)
      · rw [if_pos c2, if_pos (by omega)]
        omega
      · rw [if_neg c2, if_neg (by omega)]
        omega
theorem brS_ab {p : Int → Int} {v d : Int} {n : Nat} (d0 : 2 ≤ d) (dv : d < v) (e0 : 2 ≤ v / d) (e1 : v / d < v) (hv : v < (n : Int)) (hs : d + v / d ≤ v) : sm (fun u => u * ab (brS p v d u)) n ≤ sm (fun u => u * ab (p u)) n := by
  unfold brS
  rw [sm_uab (by omega), sm_uab (by omega), sm_uab (by omega), if_pos (by omega), if_pos (by omega), if_pos (by omega)]
  have x1 : up1 (up1 p d (p d + p v)) (v / d) (up1 p d (p d + p v) (v / d) + p v) v = p v := by
    unfold up1
    rw [if_neg (by omega), if_neg (by omega)]
  rw [x1]
  generalize up1 p d (p d + p v) (v / d) = y
  have a1 : d * (ab (p d + p v) - ab (p d)) ≤ d * ab (p v) := Int.mul_le_mul_of_nonneg_left (by unfold ab; omega) (by omega)
  have a2 : v / d * (ab (y + p v) - ab y) ≤ v / d * ab (p v) := Int.mul_le_mul_of_nonneg_left (by unfold ab; omega) (by omega)
  have a3 : v * (ab 0 - ab (p v)) = - (v * ab (p v)) := by
    rw [show ab 0 = 0 by rfl, Int.zero_sub, Int.mul_neg]
  have a4 : (d + v / d) * ab (p v) ≤ v * ab (p v) := Int.mul_le_mul_of_nonneg_right hs (by unfold ab; omega)
  rw [Int.add_mul] at a4
  omega
def Ow (σ : ZM) (n : Nat) (p : Int → Int) : Prop := ∀ u : Int, 0 ≤ u → u ≤ (n : Int) → zI σ 157 u = p u
theorem Ow.w {σ : ZM} {n : Nat} {f : Int → Int} (h : Ow σ n f) (i x : Int) : Ow (wI σ 157 i x) n (up1 f i x) := fun v v0 v1 => by
  unfold up1
  rw [zI_wI]
  by_cases c : v = i
  · rw [if_pos ⟨rfl, c⟩, if_pos c]
  · rw [if_neg (fun w => c w.2), if_neg c]
    exact h v v0 v1
theorem ab_le {p : Int → Int} {n : Nat} {B : Int} (h : sm (fun u => u * ab (p u)) (n + 1) ≤ B) {u : Int} (u0 : 1 ≤ u) (u1 : u ≤ (n : Int)) : ab (p u) ≤ B := by
  have h0 : ∀ x : Int, 0 ≤ ab x := fun x => by unfold ab; omega
  have := sm_term (f := fun u => u * ab (p u)) (n + 1) (fun i i0 i1 => Int.mul_nonneg i0 (h0 _)) u (by omega) (by omega)
  have h2 : 1 * ab (p u) ≤ u * ab (p u) := Int.mul_le_mul_of_nonneg_right u0 (h0 _)
  have h3 : u * ab (p u) ≤ B := Int.le_trans this h
  omega
theorem t_break {Q : ZQ} {σ : ZM} {n : Nat} {p : Int → Int} (hS : Shp σ) (hn : n ≤ 30) (ho : Ow σ n p) (hb : sm (fun u => u * ab (p u)) (n + 1) ≤ 500000000) (q : ∀ σ' p', Ow σ' n p' → (∀ r : Nat, r < 31 → sm (fun u => vqI r u * p' u) (n + 1) = sm (fun u => vqI r u * p u) (n + 1)) → (∀ u : Int, 4 ≤ u → u ≤ (n : Int) → prB u.toNat = false → p' u = 0) → Fr (fun a => a = 157) σ σ' → Q zu σ') : WP m_Filler_breakToPrimes 0 [zr 154, zi (n : Int), zu, zu] [] σ (0, 0) Q := by
  have k2 : ∀ (e v : Nat) (u1 u3 : PV) (τ : ZM) (p' : Int → Int), v ≤ 3 + e → v ≤ n → Ow τ n p' → sm (fun u => u * ab (p' u)) (n + 1) ≤ 500000000 → (∀ r : Nat, r < 31 → sm (fun u => vqI r u * p' u) (n + 1) = sm (fun u => vqI r u * p u) (n + 1)) → (∀ u : Int, 4 ≤ u → (v : Int) < u → u ≤ (n : Int) → prB u.toNat = false → p' u = 0) → Fr (fun a => a = 157) σ τ → WP m_Filler_breakToPrimes 2 [zr 154, u1, zi (v : Int), u3] [] τ (0, 0) Q := by
    intro e
    induction e with
    | zero =>
      intro v u1 u3 τ p' hv hvn hoT hbT hwT hcT f1
      exact r_Filler_breakToPrimes_2 ⟨fun _ => q τ p' hoT hwT (fun u u4 un hu => hcT u u4 (by omega) un hu) f1, fun w => by omega⟩
    | succ e ih =>
      intro v u1 u3 τ p' hv hvn hoT hbT hwT hcT f1
      have hT := f1.shp hS
      refine r_Filler_breakToPrimes_2 ?_
      simp only [hT, zrI, zrL, zrR, Shp_wI, Shp_wJ, zR_wI, zR_wJ, zJ_wI, zI_wJ, zobj_wI, zobj_wJ, zarr_wI, zarr_wJ, zS_wI, zS_wJ, o_2, a_3, a_4, a_5, o_10, a_11, a_12, o_137, o_138, a_139, o_140, a_141, o_142, a_143, o_146, a_147, a_148, a_149, o_152, a_153, o_154, a_157, o_158, a_159, r_2_0, r_2_1, r_2_2, r_2_3, r_2_4, r_2_5, r_2_6, r_2_7, r_2_8, r_2_9, r_2_10, r_10_0, r_10_1, r_137_0, r_137_1, r_137_2, r_138_0, r_140_0, r_142_0, r_146_0, r_146_1, r_146_2, r_146_3, r_152_0, r_154_0, r_154_1, r_158_0, zrI, zrL, zrR, ne_eq, true_and, and_true, true_or, or_true, not_true_eq_false, not_false_eq_true, false_and, and_false, forall_const, true_implies, false_implies, implies_true, reduceCtorEq, Int.reduceEq, Int.reduceNe, Int.reduceLT, Int.reduceLE, Int.reduceNeg, Nat.reduceEqDiff, if_true, if_false, reduceIte, Int.reduceMul, Int.reduceAdd, Int.reduceSub]
      refine ⟨fun w => q τ p' hoT hwT (fun u u4 un hu => hcT u u4 (by omega) un hu) f1, fun w => t_leastDivisor (by omega) (by omega) ?_⟩
      have lb := ld_bd (v := v) (by omega) (by omega)
      have pd := hoT (ldN v : Int) (by omega) (by omega)
      have pv := hoT (v : Int) (by omega) (by omega)
      have bd1 := ab_le hbT (u := (ldN v : Int)) (by omega) (by omega)
      have bd2 := ab_le hbT (u := (v : Int)) (by omega) (by omega)
      have ediv : Int.tdiv (v : Int) (ldN v : Int) = ((v / ldN v : Nat) : Int) := by rw [Int.tdiv_eq_ediv_of_nonneg (by omega)]; exact (Int.natCast_ediv v (ldN v)).symm
      simp only [hT, zrI, zrL, zrR, Shp_wI, Shp_wJ, zR_wI, zR_wJ, zJ_wI, zI_wJ, zobj_wI, zobj_wJ, zarr_wI, zarr_wJ, zS_wI, zS_wJ, o_2, a_3, a_4, a_5, o_10, a_11, a_12, o_137, o_138, a_139, o_140, a_141, o_142, a_143, o_146, a_147, a_148, a_149, o_152, a_153, o_154, a_157, o_158, a_159, r_2_0, r_2_1, r_2_2, r_2_3, r_2_4, r_2_5, r_2_6, r_2_7, r_2_8, r_2_9, r_2_10, r_10_0, r_10_1, r_137_0, r_137_1, r_137_2, r_138_0, r_140_0, r_142_0, r_146_0, r_146_1, r_146_2, r_146_3, r_152_0, r_154_0, r_154_1, r_158_0, zrI, zrL, zrR, ne_eq, true_and, and_true, true_or, or_true, not_true_eq_false, not_false_eq_true, false_and, and_false, forall_const, true_implies, false_implies, implies_true, reduceCtorEq, Int.reduceEq, Int.reduceNe, Int.reduceLT, Int.reduceLE, Int.reduceNeg, Nat.reduceEqDiff, if_true, if_false, reduceIte, Int.reduceMul, Int.reduceAdd, Int.reduceSub]
      refine ⟨fun c => ⟨by omega, ?_⟩, fun c => ?_⟩
      · have hpr := lb.2.2 (by omega)
        have := ih (v - 1) (zkill u1) (zi (ldN v : Int)) τ p' (by omega) (by omega) hoT hbT hwT (fun u u4 uv un hu => by
          by_cases c2 : u = (v : Int)
          · rw [c2, Int.toNat_natCast, hpr] at hu
            cases hu
          · exact hcT u u4 (by omega) un hu) f1
        rw [show ((v - 1 : Nat) : Int) = (v : Int) + -1 by omega] at this
        exact this
      · have l0 := ld_lt (v := v) (q := 0) (by omega) (by omega) (by omega) (by omega)
        have pe := hoT ((v / ldN v : Nat) : Int) (by omega) (by omega)
        have bd3 := ab_le hbT (u := ((v / ldN v : Nat) : Int)) (by omega) (by omega)
        have hy : zI (wI τ 157 (ldN v : Int) (p' (ldN v : Int) + p' (v : Int))) 157 ((v / ldN v : Nat) : Int) = up1 p' (ldN v : Int) (p' (ldN v : Int) + p' (v : Int)) ((v / ldN v : Nat) : Int) := (hoT.w _ _) _ (by omega) (by omega)
        have hv2 : zI (wI τ 157 (ldN v : Int) (p' (ldN v : Int) + p' (v : Int))) 157 (v : Int) = p' (v : Int) := by
          rw [zI_wI, if_neg (by omega)]
          exact pv
        have hyb : ab (up1 p' (ldN v : Int) (p' (ldN v : Int) + p' (v : Int)) ((v / ldN v : Nat) : Int)) ≤ 1000000000 := by
          unfold up1
          split
          · unfold ab at bd1 bd2 ⊢
            omega
          · unfold ab at bd3 ⊢
            omega
        have hle : (ldN v : Int) + ((v / ldN v : Nat) : Int) ≤ (v : Int) := by
          have h1 := Nat.div_add_mod v (ldN v)
          rw [l0.1, Nat.add_zero] at h1
          have h2 : (ldN v - 1) * (v / ldN v - 1) + (ldN v + v / ldN v - 1) = ldN v * (v / ldN v) := by
            obtain ⟨a, ha⟩ : ∃ a, ldN v = a + 1 := ⟨ldN v - 1, by omega⟩
            obtain ⟨b, hb'⟩ : ∃ b, v / ldN v = b + 1 := ⟨v / ldN v - 1, by omega⟩
            rw [ha] at hb' ⊢
            rw [hb', Nat.add_sub_cancel, Nat.add_sub_cancel, Nat.add_mul, Nat.mul_add]
            omega
          have h3 : 1 ≤ (ldN v - 1) * (v / ldN v - 1) := Nat.mul_pos (by omega) (by omega)
          omega
        have ie : (v : Int) / (ldN v : Int) = ((v / ldN v : Nat) : Int) := (Int.natCast_ediv v (ldN v)).symm
        have hbb : sm (fun u => u * ab (brS p' (v : Int) (ldN v : Int) u)) (n + 1) ≤ sm (fun u => u * ab (p' u)) (n + 1) := brS_ab (by omega) (by omega) (by rw [ie]; omega) (by rw [ie]; omega) (by omega) (by rw [ie]; exact hle)
        have := ih (v - 1) (zkill u1) (zi (ldN v : Int)) (wI (wI (wI τ 157 (ldN v : Int) (p' (ldN v : Int) + p' (v : Int))) 157 ((v / ldN v : Nat) : Int) (up1 p' (ldN v : Int) (p' (ldN v : Int) + p' (v : Int)) ((v / ldN v : Nat) : Int) + p' (v : Int))) 157 (v : Int) 0) (brS p' (v : Int) (ldN v : Int)) (by omega) (by omega) (by
          unfold brS
          rw [ie]
          exact ((hoT.w _ _).w _ _).w _ _) (by omega) (fun r hr => by
          rw [brS_w (by omega) (by omega) (by rw [ie]; omega) (by rw [ie]; omega) (by omega) (by
            have h5 := (ld_lt (v := v) (q := r) (by omega) hr (by omega) (by omega)).2.2.2.2
            unfold vqI
            rw [ie, Int.toNat_natCast, Int.toNat_natCast, Int.toNat_natCast, h5]
            omega)]
          exact hwT r hr) (fun u u4 uv un hu => by
          unfold brS up1
          by_cases c2 : u = (v : Int)
          · rw [if_pos c2]
          · rw [if_neg c2, ie, if_neg (by omega), if_neg (by omega)]
            exact hcT u u4 (by omega) un hu) (((f1.tr (Fr.wI rfl)).tr (Fr.wI rfl)).tr (Fr.wI rfl))
        rw [show ((v - 1 : Nat) : Int) = (v : Int) + -1 by omega] at this
        unfold ab at bd1 bd2 hyb
        rw [pd, pv, ediv]
        simp only [hT, hy, hv2, zrI, zrL, zrR, Shp_wI, Shp_wJ, zR_wI, zR_wJ, zJ_wI, zI_wJ, zobj_wI, zobj_wJ, zarr_wI, zarr_wJ, zS_wI, zS_wJ, o_2, a_3, a_4, a_5, o_10, a_11, a_12, o_137, o_138, a_139, o_140, a_141, o_142, a_143, o_146, a_147, a_148, a_149, o_152, a_153, o_154, a_157, o_158, a_159, r_2_0, r_2_1, r_2_2, r_2_3, r_2_4, r_2_5, r_2_6, r_2_7, r_2_8, r_2_9, r_2_10, r_10_0, r_10_1, r_137_0, r_137_1, r_137_2, r_138_0, r_140_0, r_142_0, r_146_0, r_146_1, r_146_2, r_146_3, r_152_0, r_154_0, r_154_1, r_158_0, zrI, zrL, zrR, ne_eq, true_and, and_true, true_or, or_true, not_true_eq_false, not_false_eq_true, false_and, and_false, forall_const, true_implies, false_implies, implies_true, reduceCtorEq, Int.reduceEq, Int.reduceNe, Int.reduceLT, Int.reduceLE, Int.reduceNeg, Nat.reduceEqDiff, if_true, if_false, reduceIte, Int.reduceMul, Int.reduceAdd, Int.reduceSub]
        have l1 := l0.2.2.1
        have l2 := l0.2.2.2.1
        clear ih hcT hwT hbb hle hy hv2 l0 q bd3 pe ediv ie
        generalize hz : up1 p' (ldN v : Int) (p' (ldN v : Int) + p' (v : Int)) ((v / ldN v : Nat) : Int) = z at *
        generalize hvd : v / ldN v = vd at *
        repeat' first | omega | exact Or.inl (by omega) | apply And.intro | refine fun (_ : _ ≤ _) => ?_ | refine fun (_ : _ < _) => ?_ | refine fun (_ : _ = _) => ?_ | refine fun (_ : ¬ (_ = _)) => ?_ | refine fun (_ : _ ∨ _) => ?_
        all_goals exact this
  exact r_Filler_breakToPrimes_0 (k2 30 n _ _ σ p (by omega) (Nat.le_refl _) ho hb (fun r hr => rfl) (fun u u4 un => by omega) Fr.rf)
