/-! Sum: turn, shrink, grow, follow -/
/-- the first n columns -/
def cjN (l : List Int) (n : Nat) : List Int := (List.range n).map (fun (j : Nat) => colN l (j : Int))
theorem cjN_snoc {l : List Int} {n : Nat} : cjN l (n + 1) = cjN l n ++ [colN l (n : Int)] := by
  unfold cjN
  rw [List.range_succ, List.map_append]
  rfl
theorem cjN_len {l : List Int} {n : Nat} : (cjN l n).length = n := by
  unfold cjN
  rw [List.length_map, List.length_range]
theorem colN_bd {l : List Int} {j : Int} : 0 ≤ colN l j ∧ colN l j ≤ 400 := by
  have := sm_bd (f := fun k => if j < ga l k then 1 else 0) (B := 1) 400 (fun j _ _ => by split <;> omega)
  unfold colN
  omega
theorem cjN_sum {l : List Int} : ∀ n : Nat, 0 ≤ (cjN l n).sum ∧ (cjN l n).sum ≤ n * 400
  | 0 => by simp [cjN]
  | n + 1 => by
    have := cjN_sum (l := l) n
    have := colN_bd (l := l) (j := (n : Int))
    rw [cjN_snoc]
    simp only [List.sum_append, List.sum_cons, List.sum_nil]
    omega
def cj (l : List Int) : List Int := cjN l (ga l 0).toNat
theorem t_Sum_turn_11 {Q : ZQ} {h o : Nat} {l : List Int} (hd : h ≠ o ∧ h ≠ o + 1 ∧ h + 1 ≠ o) (hp : Pt l) : ∀ (k j : Nat) (x : Int) (σ : ZM), (j : Int) + k = ga l 0 → 0 ≤ x → x ≤ 400 → (∀ y, x ≤ y → ga l y ≤ j) → SumO σ h → SumO σ o → Lz σ o l → Lz σ h (cjN l j) → (∀ σ', Lz σ' h (cj l) → Fr (two h) σ σ' → Q zu σ') → WP m_Sum_turn 11 [zr h, zr o, zi x, zi (j : Int)] [] σ (0, 0) Q := by
  have hr := hp.rng 0
  intro k
  induction k with
  | zero =>
    intro j x σ hk x0 x4 hx oh oo hlo hlh q
    refine r_Sum_turn_11 ⟨oo.1, t_Sum_at oo hlo ⟨fun c => q σ ?_ Fr.rf, fun c => absurd c (by omega)⟩⟩
    unfold cj
    rw [show (ga l 0).toNat = j by omega]
    exact hlh
  | succ k ih =>
    intro j x σ hk x0 x4 hx oh oo hlo hlh q
    refine r_Sum_turn_11 ⟨oo.1, t_Sum_at oo hlo ⟨fun c => absurd c (by omega), fun c => ?_⟩⟩
    have fin : ∀ z : Int, 0 ≤ z → z ≤ 400 → Fst (fun k => (j : Int) < ga l k) z → WP m_Sum_add 0 [zr h, zi z] [] σ (0, 0) (fun r1 σ2 => ((-2147483648 ≤ ((j : Int) + 1 : Int) ∧ ((j : Int) + 1 : Int) ≤ 2147483647) ∧ WP m_Sum_turn 11 [zr h, zr o, zi z, zi ((j : Int) + 1)] [] σ2 (0, 0) Q)) := by
      intro z z0 z4 hz
      have hc := colN_fst hp (by omega) hz
      have hsum := cjN_sum (l := l) j
      refine t_Sum_add oh hlh (by rw [cjN_len]; omega) (by omega) (fun σ' g1 g2 => ⟨by omega, ?_⟩)
      rw [← hc, ← cjN_snoc] at g1
      have := ih (j + 1) z σ' (by omega) z0 z4 (fun y hy => by
        have h1 : ¬ (j : Int) < ga l z := hz.2.2
        have h2 := hp.2.2 z y z0 hy
        omega) (g2.sumO oh) (g2.sumO oo) (g2.lz (by omega) (by omega) hlo) g1 (fun σ2 e1 e2 => q σ2 e1 (g2.tr e2))
      rw [Int.natCast_succ] at this
      exact this
    have inner : ∀ (m : Nat) (z : Int), z = m → z ≤ 400 → (∀ y, z ≤ y → ga l y ≤ j) → WP m_Sum_turn 20 [zr h, zr o, zi z, zi (j : Int)] [] σ (0, 0) Q := by
      intro m
      induction m with
      | zero =>
        intro z hz z4 hb
        have h0 : ga l z ≤ j := hb z (Int.le_refl _)
        exact r_Sum_turn_20 ⟨fun c => ⟨oh.1, fin z (by omega) z4 ⟨by omega, fun y y0 y1 => by omega, by show ¬ (j : Int) < ga l z; omega⟩⟩, fun c => absurd c (by omega)⟩
      | succ m ihm =>
        intro z hz z4 hb
        have h0 : ga l z ≤ j := hb z (Int.le_refl _)
        refine r_Sum_turn_20 ⟨fun c => absurd c (by omega), fun c => ⟨by omega, oo.1, t_Sum_at oo hlo ⟨fun c2 => ⟨oh.1, fin z (by omega) z4 ⟨by omega, fun y y0 y1 => ?_, by show ¬ (j : Int) < ga l z; omega⟩⟩, fun c2 => ⟨by omega, ?_⟩⟩⟩⟩
        · have := hp.2.2 y (z - 1) y0 (by omega)
          show (j : Int) < ga l y
          omega
        · refine ihm (z + -1) (by omega) (by omega) (fun y hy => ?_)
          by_cases e : y = z - 1
          · rw [e]; exact c2
          · exact hb y (by omega)
    exact inner x.toNat x (by omega) x4 hx
theorem t_Sum_turn {Q : ZQ} {h o : Nat} {l : List Int} {σ : ZM} (hd : h ≠ o ∧ h ≠ o + 1 ∧ h + 1 ≠ o) (hp : Pt l) (oh : SumO σ h) (oo : SumO σ o) (hlo : Lz σ o l) (q : ∀ σ', Lz σ' h (cj l) → Fr (two h) σ σ' → Q zu σ') : WP m_Sum_turn 0 [zr h, zr o, zu, zu] [] σ (0, 0) Q := by
  have hr := hp.rng 0
  refine r_Sum_turn_0 ⟨oh.1, t_Sum_empty oh (fun σ' g1 g2 => ?_)⟩
  have hlo' := g2.lz (by omega) (by omega) hlo
  refine ⟨(g2.sumO oo).1, ?_⟩
  rw [hlo'.1]
  exact t_Sum_turn_11 hd hp (ga l 0).toNat 0 _ σ' (by omega) (by omega) (by have := hlo.2.2.1; omega) (fun y hy => by rw [ga_out hy]; omega) (g2.sumO oh) (g2.sumO oo) hlo' g1 (fun σ2 e1 e2 => q σ2 e1 (g2.tr e2))
/-- parts of v, and what is left of n -/
def fil (v : Int) : Nat → Int → List Int
  | 0, _ => []
  | k + 1, n => if n ≤ 0 then [] else min v n :: fil v k (n - v)
