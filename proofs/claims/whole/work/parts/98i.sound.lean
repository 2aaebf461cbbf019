/-! filling: what the check says of each shape -/
def stN : List Int → List Nat × Nat
  | [] => ([], 1)
  | a :: t => pushS a.toNat (stN t)
def dsN : List Int → List (List Nat × Nat)
  | [] => []
  | a :: t => nextD a.toNat (ga t 0).toNat (stN t) (dsN t)
/-- sheets that the check walks: built from the last row up -/
theorem chk_step {f n a h : Nat} {s : List Nat × Nat} {ds : List (List Nat × Nat)} (hc : chk (f + 1) n a h s ds = true) (hn : n + a ≤ 30) : okS (n + a) (pushS a s) (nextD a h s ds) = true ∧ chk f (n + a) a a (pushS a s) (nextD a h s ds) = true ∧ chk f n (a + 1) h s ds = true := by
  have e : chk (f + 1) n a h s ds = (bif Nat.ble (n + a) 30 then (okS (n + a) (pushS a s) (nextD a h s ds) && chk f (n + a) a a (pushS a s) (nextD a h s ds)) && chk f n (a + 1) h s ds else true) := rfl
  rw [e, show Nat.ble (n + a) 30 = true from Nat.ble_eq.mpr hn] at hc
  have hc' : ((okS (n + a) (pushS a s) (nextD a h s ds) && chk f (n + a) a a (pushS a s) (nextD a h s ds)) && chk f n (a + 1) h s ds) = true := hc
  rw [Bool.and_eq_true, Bool.and_eq_true] at hc'
  exact ⟨hc'.1.1, hc'.1.2, hc'.2⟩
theorem chk_up {n h : Nat} {s : List Nat × Nat} {ds : List (List Nat × Nat)} : ∀ (e f a : Nat), chk (f + e) n a h s ds = true → n + a + e ≤ 31 → chk f n (a + e) h s ds = true
  | 0, f, a, hc, _ => hc
  | e + 1, f, a, hc, hn => by
    have := (chk_step (f := f + e) hc (by omega)).2.2
    have r := chk_up e f (a + 1) this (by omega)
    rw [show a + (e + 1) = a + 1 + e by omega]
    exact r
theorem chk_l : ∀ l : List Int, Pt l → l.sum ≤ 30 → chk (64 - l.length - (max (ga l 0).toNat 1 - 1)) l.sum.toNat (max (ga l 0).toNat 1) (ga l 0).toNat (stN l) (dsN l) = true ∧ (l ≠ [] → okS l.sum.toNat (stN l) (dsN l) = true)
  | [], _, _ => ⟨chk_all, fun w => absurd rfl w⟩
  | a :: t, hp, hs => by
    have ha := Pt_head hp
    have hpt := Pt_tail hp
    have hlen := hp.len
    have hlt := hpt.len
    have rt := hpt.rng 0
    have hs' := hs
    rw [List.sum_cons] at hs'
    have ih := (chk_l t hpt (by omega)).1
    have hl1 : (a :: t).length = t.length + 1 := rfl
    have e0 : ga (a :: t) 0 = a := rfl
    have ht0 : ga t 0 = 0 ∨ ga t 0 ≤ t.sum := by
      by_cases c : t.length = 0
      · exact Or.inl (ga_out (by omega))
      · exact Or.inr (mem_le t hpt.1 _ (ga_mem (by omega) (by omega)))
    have hl2 : t.length + (ga t 0).toNat ≤ 31 := by
      cases t with
      | nil => 
        rw [ga_out (l := []) (by simp)]
        simp
      | cons b t' =>
        have h3 := sum_pos t' (fun x hx => hpt.1 x (List.mem_cons_of_mem _ hx))
        have h4 : (b :: t').sum = b + t'.sum := List.sum_cons
        have h5 : ga (b :: t') 0 = b := rfl
        have h6 : (b :: t').length = t'.length + 1 := rfl
        omega
    have up := chk_up (n := t.sum.toNat) (h := (ga t 0).toNat) (s := stN t) (ds := dsN t) (a.toNat - max (ga t 0).toNat 1) (64 - t.length - (a.toNat - 1)) (max (ga t 0).toNat 1) (by
      rw [show 64 - t.length - (a.toNat - 1) + (a.toNat - max (ga t 0).toNat 1) = 64 - t.length - (max (ga t 0).toNat 1 - 1) by omega]
      exact ih) (by omega)
    rw [show max (ga t 0).toNat 1 + (a.toNat - max (ga t 0).toNat 1) = a.toNat by omega, show 64 - t.length - (a.toNat - 1) = (64 - (t.length + 1) - (a.toNat - 1)) + 1 by omega] at up
    have st := chk_step up (by omega)
    have es : (a :: t).sum.toNat = t.sum.toNat + a.toNat := by rw [List.sum_cons]; omega
    have e1 : stN (a :: t) = pushS a.toNat (stN t) := rfl
    have e2 : dsN (a :: t) = nextD a.toNat (ga t 0).toNat (stN t) (dsN t) := rfl
    refine ⟨?_, fun _ => ?_⟩
    · rw [e1, e2, es, e0, hl1, show max a.toNat 1 = a.toNat by omega]
      exact st.2.1
    · rw [e1, e2, es]
      exact st.1
theorem incC_get : ∀ (a : Nat) (cs : List Nat) (j : Nat), (incC a cs).getD j 0 = (if j < a then 1 else 0) + cs.getD j 0
  | 0, cs, j => by
    rw [if_neg (by omega)]
    show cs.getD j 0 = 0 + cs.getD j 0
    omega
  | a + 1, [], 0 => by
    rw [if_pos (by omega)]
    rfl
  | a + 1, [], j + 1 => by
    show (incC a []).getD j 0 = _
    rw [incC_get a [] j]
    show (if j < a then 1 else 0) + 0 = (if j + 1 < a + 1 then 1 else 0) + 0
    split <;> split <;> omega
  | a + 1, c :: cs, 0 => by
    rw [if_pos (by omega)]
    show c + 1 = 1 + c
    omega
  | a + 1, c :: cs, j + 1 => by
    show (incC a cs).getD j 0 = _
    rw [incC_get a cs j]
    show (if j < a then 1 else 0) + cs.getD j 0 = (if j + 1 < a + 1 then 1 else 0) + cs.getD j 0
    split <;> split <;> omega
theorem prF_front {f : Int → Nat} : ∀ n : Nat, prF f (n + 1) = f 0 * prF (fun j => f (j + 1)) n
  | 0 => by
    show 1 * f ((0 : Nat) : Int) = f 0 * 1
    rw [show ((0 : Nat) : Int) = 0 by rfl, Nat.mul_comm]
  | n + 1 => by
    show prF f (n + 1) * f ((n + 1 : Nat) : Int) = f 0 * (prF (fun j => f (j + 1)) n * f ((n : Int) + 1))
    rw [prF_front n, Int.natCast_succ, Nat.mul_assoc]
theorem prF_ext {f g : Int → Nat} : ∀ n : Nat, (∀ j : Int, 0 ≤ j → j < (n : Int) → f j = g j) → prF f n = prF g n
  | 0, _ => rfl
  | n + 1, h => by
    show prF f n * f (n : Int) = prF g n * g (n : Int)
    rw [prF_ext n (fun j j0 j1 => h j j0 (by omega)), h (n : Int) (by omega) (by omega)]
theorem rowP_pr : ∀ (a : Nat) (cs : List Nat), rowP a cs = prF (fun j => a - j.toNat + cs.getD j.toNat 0) a
  | 0, _ => rfl
  | a + 1, [] => by
    show (a + 1) * rowP a [] = _
    rw [prF_front, rowP_pr a []]
    rw [prF_ext (f := fun j => a + 1 - (j + 1).toNat + ([] : List Nat).getD (j + 1).toNat 0) (g := fun j => a - j.toNat + ([] : List Nat).getD j.toNat 0) a (fun j j0 j1 => by
      show a + 1 - (j + 1).toNat + ([] : List Nat).getD (j + 1).toNat 0 = a - j.toNat + ([] : List Nat).getD j.toNat 0
      rw [List.getD_nil, List.getD_nil]
      omega)]
    rfl
  | a + 1, c :: cs => by
    show (a + 1 + c) * rowP a cs = _
    rw [prF_front, rowP_pr a cs]
    rw [prF_ext (f := fun j => a + 1 - (j + 1).toNat + (c :: cs).getD (j + 1).toNat 0) (g := fun j => a - j.toNat + cs.getD j.toNat 0) a (fun j j0 j1 => by
      show a + 1 - (j + 1).toNat + (c :: cs).getD (j + 1).toNat 0 = a - j.toNat + cs.getD j.toNat 0
      rw [show (j + 1).toNat = j.toNat + 1 by omega, List.getD_cons_succ]
      omega)]
    rfl
theorem colN_cons {a : Int} {t : List Int} (hp : Pt (a :: t)) {j : Int} (j0 : 0 ≤ j) : colN (a :: t) j = (if j < a then 1 else 0) + colN t j := by
  rw [← sm_len hp j0, ← sm_len (Pt_tail hp) j0]
  show sm (fun i => if j < ga (a :: t) i then 1 else 0) (t.length + 1) = _
  rw [sm_front]
  show (if j < ga (a :: t) 0 then (1 : Int) else 0) + sm (fun i => if j < ga (a :: t) (i + 1) then 1 else 0) t.length = _
  rw [ga_cons0, sm_ext (f := fun i => if j < ga (a :: t) (i + 1) then 1 else 0) (g := fun i => if j < ga t i then 1 else 0) t.length (fun i i0 i1 => by
    show (if j < ga (a :: t) (i + 1) then (1 : Int) else 0) = if j < ga t i then 1 else 0
    rw [ga_cons i0])]
theorem stN_ok : ∀ l : List Int, Pt l → (∀ j : Nat, (stN l).1.getD j 0 = (colN l (j : Int)).toNat) ∧ (stN l).2 = hPr l
  | [], hp => by
    refine ⟨fun j => ?_, rfl⟩
    have := (colN_isFst (l := []) (j := (j : Int)) hp (by omega))
    have h2 := this.1.1
    have h3 := this.2
    have : colN [] (j : Int) = 0 := by
      simp only [List.length_nil] at h3
      omega
    rw [this]
    rfl
  | a :: t, hp => by
    have ha := Pt_head hp
    obtain ⟨i1, i2⟩ := stN_ok t (Pt_tail hp)
    refine ⟨fun j => ?_, ?_⟩
    · show (incC a.toNat (stN t).1).getD j 0 = _
      have h2 := (colN_isFst (l := t) (j := (j : Int)) (Pt_tail hp) (by omega)).1.1
      rw [incC_get, i1, colN_cons hp (by omega)]
      split <;> split <;> omega
    · show rowP a.toNat (stN t).1 * (stN t).2 = prF (fun j => (a - j + colN t j).toNat) a.toNat * hPr t
      rw [i2, rowP_pr]
      rw [prF_ext (g := fun j => (a - j + colN t j).toNat) a.toNat (fun j j0 j1 => by
        show a.toNat - j.toNat + (stN t).1.getD j.toNat 0 = (a - j + colN t j).toNat
        have h2 := (colN_isFst (l := t) (j := j) (Pt_tail hp) j0).1.1
        rw [i1, show ((j.toNat : Nat) : Int) = j by omega]
        omega)]
/-- the sum over all corners -/
def sumG (g : List Int → Nat) : List Int → Nat
  | [] => 0
  | a :: t => (if ga t 0 < a then g (if a = 1 then t else (a - 1) :: t) else 0) + sumG (fun d => g (a :: d)) t
def sumK (k : List Nat × Nat → Nat) : List (List Nat × Nat) → Nat
  | [] => 0
  | d :: ds => k d + sumK k ds
theorem sumK_map {k : List Nat × Nat → Nat} {p : List Nat × Nat → List Nat × Nat} : ∀ ds, sumK k (ds.map p) = sumK (fun d => k (p d)) ds
  | [] => rfl
  | d :: ds => by
    show k (p d) + sumK k (ds.map p) = k (p d) + sumK (fun d => k (p d)) ds
    rw [sumK_map ds]
theorem sumD_K {f : Nat} : ∀ ds, sumD f ds = sumK (fun d => f / d.2) ds
  | [] => rfl
  | d :: ds => by
    show f / d.2 + sumD f ds = f / d.2 + sumK (fun d => f / d.2) ds
    rw [sumD_K ds]
theorem dsN_sum : ∀ (l : List Int), Pt l → ∀ k : List Nat × Nat → Nat, sumK k (dsN l) = sumG (fun d => k (stN d)) l
  | [], _, _ => rfl
  | a :: t, hp, k => by
    have ha := Pt_head hp
    have ih := dsN_sum t (Pt_tail hp) (fun d => k (pushS a.toNat d))
    have rt := (Pt_tail hp).rng 0
    show sumK k (bif Nat.blt (ga t 0).toNat a.toNat then pushS (a.toNat - 1) (stN t) :: (dsN t).map (pushS a.toNat) else (dsN t).map (pushS a.toNat)) = (if ga t 0 < a then k (stN (if a = 1 then t else (a - 1) :: t)) else 0) + sumG (fun d => k (stN (a :: d))) t
    have ih' : sumK (fun d => k (pushS a.toNat d)) (dsN t) = sumG (fun d => k (stN (a :: d))) t := ih
    by_cases c : ga t 0 < a
    · rw [show Nat.blt (ga t 0).toNat a.toNat = true from Nat.ble_eq.mpr (by omega), if_pos c]
      show k (pushS (a.toNat - 1) (stN t)) + sumK k ((dsN t).map (pushS a.toNat)) = _
      rw [sumK_map, ih']
      by_cases c1 : a = 1
      · rw [if_pos c1, c1]
        have : t = [] := by
          cases t with
          | nil => rfl
          | cons b t' =>
            have := (Pt_head (Pt_tail hp)).1
            have e : ga (b :: t') 0 = b := rfl
            omega
        rw [this]
        rfl
      · rw [if_neg c1]
        show _ = k (pushS (a - 1).toNat (stN t)) + _
        rw [show (a - 1).toNat = a.toNat - 1 by omega]
    · rw [if_neg c, show Nat.blt (ga t 0).toNat a.toNat = false from Bool.eq_false_iff.mpr (fun w => by
        have := Nat.ble_eq.mp w
        omega)]
      show sumK k ((dsN t).map (pushS a.toNat)) = _
      rw [sumK_map, ih']
      omega
