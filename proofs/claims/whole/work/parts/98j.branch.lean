/-! filling: all ways go on from some corner -/
theorem shr_0 {a : Int} {t : List Int} : shr (a :: t) 0 = if a = 1 then [] else (a - 1) :: t := rfl
theorem shr_s {a : Int} {t : List Int} {i : Int} (i0 : 0 ≤ i) : shr (a :: t) (i + 1) = a :: shr t i := by
  unfold shr
  rw [ga_cons i0, show (i + 1).toNat = i.toNat + 1 by omega, List.take_succ_cons, List.set_cons_succ]
  split <;> rfl
theorem one_nil {a : Int} {t : List Int} (hp : Pt (a :: t)) (h : ga t 0 < 1) : t = [] := by
  cases t with
  | nil => rfl
  | cons b t' =>
    have := (Pt_head (Pt_tail hp)).1
    have e : ga (b :: t') 0 = b := rfl
    omega
theorem Pt_cons {a : Int} {t : List Int} (hp : Pt t) (h1 : 1 ≤ a) (h2 : ga t 0 ≤ a) (h3 : a + t.sum ≤ 400) : Pt (a :: t) := by
  refine ⟨fun x hx => ?_, by rw [List.sum_cons]; exact h3, fun i j i0 hij => ?_⟩
  · rcases List.mem_cons.mp hx with w | w
    · rw [w]; exact h1
    · exact hp.1 x w
  · by_cases c : i = 0
    · subst c
      rw [ga_cons0]
      by_cases c2 : j = 0
      · rw [c2, ga_cons0]
        exact Int.le_refl _
      · rw [show j = (j - 1) + 1 by omega, ga_cons (by omega)]
        exact Int.le_trans (hp.2.2 0 (j - 1) (by omega) (by omega)) h2
    · rw [show j = (j - 1) + 1 by omega, ga_cons (by omega), show i = (i - 1) + 1 by omega, ga_cons (by omega)]
      exact hp.2.2 (i - 1) (j - 1) (by omega) (by omega)
theorem Pt_shr : ∀ (l : List Int), Pt l → ∀ i : Nat, ga l ((i : Int) + 1) < ga l (i : Int) → Pt (shr l (i : Int)) ∧ (shr l (i : Int)).sum = l.sum - 1 ∧ ga (shr l (i : Int)) 0 ≤ ga l 0
  | [], _, i, h => by
    rw [ga_out (l := []) (i := (i : Int) + 1) (by simp; omega), ga_out (l := []) (i := (i : Int)) (by simp)] at h
    omega
  | a :: t, hp, 0, h => by
    have ha := Pt_head hp
    have h2 := hp.2.1
    rw [List.sum_cons] at h2 ⊢
    rw [show ((0 : Nat) : Int) = 0 by rfl, ga_cons (by omega), ga_cons0] at h
    rw [show ((0 : Nat) : Int) = 0 by rfl, shr_0, ga_cons0]
    by_cases c : a = 1
    · rw [if_pos c, one_nil hp (by omega)]
      exact ⟨Pt_nil, by rw [c]; rfl, by rw [ga_out (l := []) (by simp)]; omega⟩
    · rw [if_neg c]
      exact ⟨Pt_cons (Pt_tail hp) (by omega) (by omega) (by omega), by rw [List.sum_cons]; omega, by rw [ga_cons0]; omega⟩
  | a :: t, hp, i + 1, h => by
    have ha := Pt_head hp
    have h2 := hp.2.1
    rw [List.sum_cons] at h2 ⊢
    rw [Int.natCast_succ, ga_cons (by omega), ga_cons (by omega)] at h
    obtain ⟨p1, p2, p3⟩ := Pt_shr t (Pt_tail hp) i h
    rw [Int.natCast_succ, shr_s (by omega), ga_cons0, ga_cons0]
    exact ⟨Pt_cons p1 ha.1 (by omega) (by omega), by rw [List.sum_cons]; omega, Int.le_refl _⟩
theorem sumG_sm : ∀ (l : List Int), Pt l → ∀ g : List Int → Nat, ((sumG g l : Nat) : Int) = sm (fun i => if ga l (i + 1) < ga l i then (g (shr l i) : Int) else 0) l.length
  | [], _, _ => rfl
  | a :: t, hp, g => by
    have ih := sumG_sm t (Pt_tail hp) (fun d => g (a :: d))
    show (((if ga t 0 < a then g (if a = 1 then t else (a - 1) :: t) else 0) + sumG (fun d => g (a :: d)) t : Nat) : Int) = sm (fun i => if ga (a :: t) (i + 1) < ga (a :: t) i then (g (shr (a :: t) i) : Int) else 0) (t.length + 1)
    rw [sm_front, Int.natCast_add, ih]
    have e1 : (((if ga t 0 < a then g (if a = 1 then t else (a - 1) :: t) else 0 : Nat)) : Int) = (if ga (a :: t) (0 + 1) < ga (a :: t) 0 then (g (shr (a :: t) 0) : Int) else 0) := by
      rw [ga_cons (by omega), ga_cons0, shr_0]
      by_cases c : ga t 0 < a
      · rw [if_pos c, if_pos c]
        by_cases c1 : a = 1
        · rw [if_pos c1, if_pos c1, one_nil hp (by omega)]
        · rw [if_neg c1, if_neg c1]
      · rw [if_neg c, if_neg c]
        rfl
    have e2 : sm (fun i => if ga (a :: t) (i + 1 + 1) < ga (a :: t) (i + 1) then (g (shr (a :: t) (i + 1)) : Int) else 0) t.length = sm (fun i => if ga t (i + 1) < ga t i then (g (a :: shr t i) : Int) else 0) t.length := by
      refine sm_ext _ (fun i i0 i1 => ?_)
      show (if ga (a :: t) (i + 1 + 1) < ga (a :: t) (i + 1) then (g (shr (a :: t) (i + 1)) : Int) else 0) = if ga t (i + 1) < ga t i then (g (a :: shr t i) : Int) else 0
      rw [ga_cons (by omega), ga_cons i0, shr_s i0]
    rw [e1, e2]
theorem okS_3 {n : Nat} {s : List Nat × Nat} {ds : List (List Nat × Nat)} (h : okS n s ds = true) : fct n % s.2 = 0 ∧ (1 ≤ n → fct n / s.2 ≤ sumD (fct (n - 1)) ds) ∧ fct n / s.2 < 9223372036854775808 := by
  unfold okS at h
  rw [Bool.and_eq_true, Bool.and_eq_true, Bool.or_eq_true] at h
  refine ⟨Nat.eq_of_beq_eq_true h.1.1, fun hn => ?_, Nat.ble_eq.mp h.2⟩
  rcases h.1.2 with w | w
  · have := Nat.eq_of_beq_eq_true w
    omega
  · exact Nat.ble_eq.mp w
theorem FN_ok {l : List Int} (hp : Pt l) (hs : l.sum ≤ 30) : hPr l ∣ fct l.sum.toNat ∧ FN l = fct l.sum.toNat / hPr l ∧ FN l < 9223372036854775808 := by
  have hd : hPr l ∣ fct l.sum.toNat ∧ fct l.sum.toNat / hPr l < 9223372036854775808 := by
    cases l with
    | nil => exact ⟨Nat.one_dvd _, by show fct 0 / 1 < _; decide⟩
    | cons a t =>
      have h := okS_3 ((chk_l (a :: t) hp hs).2 (by simp))
      rw [(stN_ok _ hp).2] at h
      exact ⟨Nat.dvd_of_mod_eq_zero h.1, h.2.2⟩
  have e := FN_div hp hs hd.1
  exact ⟨hd.1, e, by rw [e]; exact hd.2⟩
theorem FN_pos (l : List Int) : 1 ≤ FN l := prodQ_pos 29
/-- corner rows and the ways that begin there -/
def cwF (l : List Int) (i : Int) : Int := if ga l (i + 1) < ga l i then (FN (shr l i) : Int) else 0
theorem branch {l : List Int} (hp : Pt l) (hs : l.sum ≤ 30) (h1 : 1 ≤ l.sum) : (FN l : Int) ≤ sm (cwF l) l.length := by
  have ho := FN_ok hp hs
  have ne : l ≠ [] := fun w => by
    rw [w] at h1
    exact absurd h1 (by decide)
  have h := (okS_3 ((chk_l l hp hs).2 ne)).2.1 (by omega)
  rw [(stN_ok _ hp).2, sumD_K, dsN_sum l hp, ← ho.2.1] at h
  have e := sumG_sm l hp (fun d => fct (l.sum.toNat - 1) / (stN d).2)
  have e2 : sm (fun i => if ga l (i + 1) < ga l i then ((fct (l.sum.toNat - 1) / (stN (shr l i)).2 : Nat) : Int) else 0) l.length = sm (cwF l) l.length := by
    refine sm_ext _ (fun i i0 i1 => ?_)
    show (if ga l (i + 1) < ga l i then ((fct (l.sum.toNat - 1) / (stN (shr l i)).2 : Nat) : Int) else 0) = cwF l i
    unfold cwF
    by_cases c : ga l (i + 1) < ga l i
    · rw [if_pos c, if_pos c]
      have ps := Pt_shr l hp i.toNat (by rw [show ((i.toNat : Nat) : Int) = i by omega]; exact c)
      rw [show ((i.toNat : Nat) : Int) = i by omega] at ps
      have o2 := FN_ok ps.1 (by omega)
      rw [o2.2.1, (stN_ok _ ps.1).2, ps.2.1, show (l.sum - 1).toNat = l.sum.toNat - 1 by omega]
    · rw [if_neg c, if_neg c]
  rw [e2] at e
  have e' : ((sumG (fun d => fct (l.sum.toNat - 1) / (stN d).2) l : Nat) : Int) = sm (cwF l) l.length := e
  omega
