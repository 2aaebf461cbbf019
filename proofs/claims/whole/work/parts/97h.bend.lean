/-! lead 3: bend -/
def bnR (l : List Int) (k : Int) : Int := if k < (l.length : Int) then ga l k / 2 else -1
def bnTp (l : List Int) (j : Int) (n : Nat) : Int := sm (fun i => if j ≤ ga l i / 2 then 1 else 0) n
def bnT (l : List Int) (j : Int) : Int := bnTp l j l.length
def bnF (l : List Int) (n : Int) : Int := bnR l (n / 2) + bnT l ((n + 1) / 2) - n
theorem bnF_e {l : List Int} {j : Int} : bnF l (2 * j) = bnR l j + bnT l j - 2 * j := by
  unfold bnF
  rw [show 2 * j / 2 = j by omega, show (2 * j + 1) / 2 = j by omega]
theorem bnF_o {l : List Int} {j : Int} : bnF l (2 * j + 1) = bnR l j + bnT l (j + 1) - 2 * j - 1 := by
  unfold bnF
  rw [show (2 * j + 1) / 2 = j by omega, show (2 * j + 1 + 1) / 2 = j + 1 by omega]
  omega
theorem bnTp_bd {l : List Int} {j : Int} (n : Nat) : 0 ≤ bnTp l j n ∧ bnTp l j n ≤ (n : Int) := by
  have := sm_bd (f := fun i => if j ≤ ga l i / 2 then 1 else 0) (B := 1) n (fun i i0 i1 => by split <;> omega)
  unfold bnTp
  omega
theorem bnT_anti {l : List Int} {a b : Int} (h : a ≤ b) : bnT l b ≤ bnT l a := by
  unfold bnT bnTp
  refine sm_mono _ (fun i i0 i1 => ?_)
  show (if b ≤ ga l i / 2 then (1 : Int) else 0) ≤ if a ≤ ga l i / 2 then 1 else 0
  split <;> split <;> omega
theorem bnR_anti {l : List Int} (hp : Pt l) {a b : Int} (a0 : 0 ≤ a) (h : a ≤ b) : bnR l b ≤ bnR l a := by
  have h1 := hp.2.2 a b a0 h
  have h2 := hp.rng a
  unfold bnR
  split <;> split <;> omega
theorem bnR_bd {l : List Int} (hp : Pt l) (a : Int) : -1 ≤ bnR l a ∧ bnR l a ≤ 200 := by
  have h2 := hp.rng a
  unfold bnR
  split <;> omega
theorem bnF_down {l : List Int} (hp : Pt l) {n : Int} (n0 : 0 ≤ n) : bnF l (n + 1) < bnF l n := by
  unfold bnF
  have h1 := bnR_anti hp (a := n / 2) (b := (n + 1) / 2) (by omega) (by omega)
  have h2 := bnT_anti (l := l) (a := (n + 1) / 2) (b := (n + 1 + 1) / 2) (by omega)
  omega
theorem bnF_end {l : List Int} : bnF l (2 * (l.length : Int)) ≤ -1 := by
  rw [bnF_e]
  have h1 : bnT l (l.length : Int) ≤ (l.length : Int) := (bnTp_bd l.length).2
  have h2 : bnR l (l.length : Int) = -1 := by unfold bnR; rw [if_neg (by omega)]
  omega
theorem sm_eo {F : Int → Int} : ∀ N : Nat, sm F N = sm (fun j => F (2 * j)) ((N + 1) / 2) + sm (fun j => F (2 * j + 1)) (N / 2)
  | 0 => rfl
  | N + 1 => by
    show sm F N + F (N : Int) = _
    rw [sm_eo N]
    by_cases c : N % 2 = 0
    · have e1 : (N + 1 + 1) / 2 = (N + 1) / 2 + 1 := by omega
      have e2 : (N + 1) / 2 = N / 2 := by omega
      have e3 : sm (fun j => F (2 * j)) ((N + 1) / 2 + 1) = sm (fun j => F (2 * j)) ((N + 1) / 2) + F (2 * (((N + 1) / 2 : Nat) : Int)) := rfl
      rw [e1, e3, show 2 * (((N + 1) / 2 : Nat) : Int) = (N : Int) by omega, e2]
      omega
    · have e1 : (N + 1 + 1) / 2 = (N + 1) / 2 := by omega
      have e2 : (N + 1) / 2 = N / 2 + 1 := by omega
      have e3 : sm (fun j => F (2 * j + 1)) (N / 2 + 1) = sm (fun j => F (2 * j + 1)) (N / 2) + F (2 * ((N / 2 : Nat) : Int) + 1) := rfl
      rw [e1]
      rw [show sm (fun j => F (2 * j + 1)) ((N + 1) / 2) = sm (fun j => F (2 * j + 1)) (N / 2 + 1) by rw [e2], e3, show 2 * ((N / 2 : Nat) : Int) + 1 = (N : Int) by omega]
      omega
theorem bn_sum {l : List Int} (hp : Pt l) (ho : odL l) {N : Nat} (hN : N ≤ 2 * l.length) : sm (bnF l) N ≤ 400 := by
  have hlen := hp.len
  have h4 := hp.2.1
  have a1 := dg_le (f := fun i => if i < (l.length : Int) then ga l i / 2 + 1 else 0) (fun i => by have := hp.rng i; show 0 ≤ if i < (l.length : Int) then ga l i / 2 + 1 else 0; split <;> omega) (d := (N + 1) / 2) (by omega)
  have b1 := dg_le (f := fun i => if i < (l.length : Int) then ga l i / 2 else 0) (fun i => by have := hp.rng i; show 0 ≤ if i < (l.length : Int) then ga l i / 2 else 0; split <;> omega) (d := N / 2) (by omega)
  have a2 : sm (fun j => bnF l (2 * j)) ((N + 1) / 2) = sm (fun j => (if j < (l.length : Int) then ga l j / 2 + 1 else 0) + sm (fun k => if j < (if k < (l.length : Int) then ga l k / 2 + 1 else 0) then 1 else 0) 400 - 2 * j - 1) ((N + 1) / 2) := by
    refine sm_ext _ (fun j j0 j1 => ?_)
    show bnF l (2 * j) = (if j < (l.length : Int) then ga l j / 2 + 1 else 0) + sm (fun k => if j < (if k < (l.length : Int) then ga l k / 2 + 1 else 0) then 1 else 0) 400 - 2 * j - 1
    have t1 := sm_tail (F := fun k => if j < (if k < (l.length : Int) then ga l k / 2 + 1 else 0) then 1 else 0) (d := l.length) (fun i i1 => by
      show (if j < (if i < (l.length : Int) then ga l i / 2 + 1 else 0) then (1 : Int) else 0) = 0
      rw [if_neg (show ¬ i < (l.length : Int) by omega), if_neg (by omega)]) (400 - l.length)
    rw [show l.length + (400 - l.length) = 400 by omega] at t1
    have t2 : sm (fun k => if j < (if k < (l.length : Int) then ga l k / 2 + 1 else 0) then 1 else 0) l.length = bnT l j := by
      refine sm_ext _ (fun i i0 i1 => ?_)
      show (if j < (if i < (l.length : Int) then ga l i / 2 + 1 else 0) then (1 : Int) else 0) = if j ≤ ga l i / 2 then 1 else 0
      rw [if_pos i1]
      split <;> split <;> omega
    rw [t1, t2, bnF_e]
    unfold bnR
    rw [if_pos (by omega), if_pos (by omega)]
    omega
  have b2 : sm (fun j => bnF l (2 * j + 1)) (N / 2) = sm (fun j => (if j < (l.length : Int) then ga l j / 2 else 0) + sm (fun k => if j < (if k < (l.length : Int) then ga l k / 2 else 0) then 1 else 0) 400 - 2 * j - 1) (N / 2) := by
    refine sm_ext _ (fun j j0 j1 => ?_)
    show bnF l (2 * j + 1) = (if j < (l.length : Int) then ga l j / 2 else 0) + sm (fun k => if j < (if k < (l.length : Int) then ga l k / 2 else 0) then 1 else 0) 400 - 2 * j - 1
    have t1 := sm_tail (F := fun k => if j < (if k < (l.length : Int) then ga l k / 2 else 0) then 1 else 0) (d := l.length) (fun i i1 => by
      show (if j < (if i < (l.length : Int) then ga l i / 2 else 0) then (1 : Int) else 0) = 0
      rw [if_neg (show ¬ i < (l.length : Int) by omega), if_neg (by omega)]) (400 - l.length)
    rw [show l.length + (400 - l.length) = 400 by omega] at t1
    have t2 : sm (fun k => if j < (if k < (l.length : Int) then ga l k / 2 else 0) then 1 else 0) l.length = bnT l (j + 1) := by
      refine sm_ext _ (fun i i0 i1 => ?_)
      show (if j < (if i < (l.length : Int) then ga l i / 2 else 0) then (1 : Int) else 0) = if j + 1 ≤ ga l i / 2 then 1 else 0
      rw [if_pos i1]
      split <;> split <;> omega
    rw [t1, t2, bnF_o]
    unfold bnR
    rw [if_pos (by omega), if_pos (by omega)]
  have c1 := sm_cut (A := fun i => ga l i / 2 + 1) (d := l.length) (400 - l.length)
  have c2 := sm_cut (A := fun i => ga l i / 2) (d := l.length) (400 - l.length)
  rw [show l.length + (400 - l.length) = 400 by omega] at c1 c2
  have c3 : sm (fun i => ga l i / 2 + 1) l.length + sm (fun i => ga l i / 2) l.length = l.sum := by
    have e := sm_ga (l := l) l.length
    rw [List.take_length] at e
    rw [← sm_plus, ← e]
    refine sm_ext _ (fun i i0 i1 => ?_)
    have := ho i i0 i1
    show ga l i / 2 + 1 + ga l i / 2 = ga l i
    omega
  have e := sm_eo (F := bnF l) N
  rw [e, a2, b2]
  have c1' : sm (fun i => if i < (l.length : Int) then ga l i / 2 + 1 else 0) 400 = sm (fun i => ga l i / 2 + 1) l.length := c1
  have c2' : sm (fun i => if i < (l.length : Int) then ga l i / 2 else 0) 400 = sm (fun i => ga l i / 2) l.length := c2
  omega
theorem bn_N {l : List Int} {N : Nat} (h : ∀ n : Int, 0 ≤ n → n < (N : Int) → 0 < bnF l n) : N ≤ 2 * l.length := by
  rcases Nat.lt_or_ge (2 * l.length) N with w | w
  · have h1 := h (2 * (l.length : Int)) (by omega) (by omega)
    have h2 := bnF_end (l := l)
    omega
  · exact w
theorem bn_Pt {l : List Int} (hp : Pt l) (ho : odL l) {N : Nat} (h : ∀ n : Int, 0 ≤ n → n < (N : Int) → 0 < bnF l n) : Pt (tbl (bnF l) N) :=
  Pt_tbl N (fun i i0 i1 => h i i0 i1) (bn_sum hp ho (bn_N h)) (fun i i0 i1 => Int.le_of_lt (bnF_down hp i0))
theorem t_halves {Q : ZQ} {σ : ZM} {g : Nat} {l : List Int} {j : Int} (og : SumO σ g) (hl : Lz σ g l) (hp : Pt l) (q : Q (zi (bnT l j)) σ) : WP m_Leads_halvesFrom 0 [zr g, zi j, zu] [] σ (0, 0) Q := by
  have hl1 := hl.1
  have hlen := hp.len
  have key : ∀ c : Int, 0 ≤ c → c ≤ (l.length : Int) → (∀ i, 0 ≤ i → i < c → j ≤ ga l i / 2) → (c < (l.length : Int) → ga l c / 2 < j) → c = bnT l j := fun c c0 c1 c2 c3 => by
    unfold bnT bnTp
    have e : sm (fun i => if j ≤ ga l i / 2 then 1 else 0) l.length = sm (fun k => if k < (l.length : Int) ∧ j ≤ ga l k / 2 then 1 else 0) l.length := by
      refine sm_ext _ (fun i i0 i1 => ?_)
      show (if j ≤ ga l i / 2 then (1 : Int) else 0) = if i < (l.length : Int) ∧ j ≤ ga l i / 2 then 1 else 0
      by_cases w : j ≤ ga l i / 2
      · rw [if_pos w, if_pos ⟨i1, w⟩]
      · rw [if_neg w, if_neg (fun v => w v.2)]
    rw [e, sm_fst (P := fun k => k < (l.length : Int) ∧ j ≤ ga l k / 2) (r := c) c0 (fun k k0 k1 => ⟨by omega, c2 k k0 k1⟩) (fun k k1 w => by
      have h1 := w.1
      have h2 := w.2
      have h3 := c3 (by omega)
      have h5 := hp.2.2 c k c0 k1
      omega), if_pos c1]
  have k2 : ∀ (e : Nat) (c : Int), 0 ≤ c → c + e = (l.length : Int) → (∀ i, 0 ≤ i → i < c → j ≤ ga l i / 2) → WP m_Leads_halvesFrom 2 [zr g, zi j, zi c] [] σ (0, 0) Q := by
    intro e
    induction e with
    | zero =>
      intro c c0 hc hn
      refine r_Leads_halvesFrom_2 ?_
      simp only [og.1, hl1, zrI, zrL, zrR, ne_eq, true_and, and_true, true_or, or_true, not_true_eq_false, not_false_eq_true, false_and, and_false, forall_const, true_implies, false_implies, implies_true, reduceCtorEq, Int.reduceEq, Int.reduceNe, Int.reduceLT, Int.reduceLE, Int.reduceNeg, Nat.reduceEqDiff, if_true, if_false, reduceIte, Int.reduceMul, Int.reduceAdd, Int.reduceSub]
      refine ⟨fun _ => ?_, fun w => by omega⟩
      rw [key c c0 (by omega) hn (fun w => by omega)]
      exact q
    | succ e ih =>
      intro c c0 hc hn
      have hr := hp.rng c
      have e2 : Int.tdiv (ga l c) 2 = ga l c / 2 := Int.tdiv_eq_ediv_of_nonneg (by omega)
      refine r_Leads_halvesFrom_2 ?_
      simp only [og.1, hl1, zrI, zrL, zrR, ne_eq, true_and, and_true, true_or, or_true, not_true_eq_false, not_false_eq_true, false_and, and_false, forall_const, true_implies, false_implies, implies_true, reduceCtorEq, Int.reduceEq, Int.reduceNe, Int.reduceLT, Int.reduceLE, Int.reduceNeg, Nat.reduceEqDiff, if_true, if_false, reduceIte, Int.reduceMul, Int.reduceAdd, Int.reduceSub]
      refine ⟨fun w => by omega, fun _ => t_Sum_at og hl ?_⟩
      simp only [e2, zrI, zrL, zrR, ne_eq, true_and, and_true, true_or, or_true, not_true_eq_false, not_false_eq_true, false_and, and_false, forall_const, true_implies, false_implies, implies_true, reduceCtorEq, Int.reduceEq, Int.reduceNe, Int.reduceLT, Int.reduceLE, Int.reduceNeg, Nat.reduceEqDiff, if_true, if_false, reduceIte, Int.reduceMul, Int.reduceAdd, Int.reduceSub]
      refine ⟨by omega, fun w => ?_, fun w => ⟨by omega, ih (c + 1) (by omega) (by omega) (fun i i0 i1 => ?_)⟩⟩
      · rw [key c c0 (by omega) hn (fun _ => w)]
        exact q
      · by_cases ei : i = c
        · rw [ei]; exact w
        · exact hn i i0 (by omega)
  exact r_Leads_halvesFrom_0 (k2 l.length 0 (by omega) (by omega) (fun i i0 i1 => by omega))
theorem t_bend {Q : ZQ} {σ : ZM} {g h : Nat} {l : List Int} (hd : h ≠ g ∧ h ≠ g + 1 ∧ h + 1 ≠ g) (og : SumO σ g) (oh : SumO σ h) (hl : Lz σ g l) (hp : Pt l) (ho : odL l) (q : ∀ N : Int, Fst (fun n => 0 < bnF l n) N → ∀ σ', Lz σ' h (tbl (bnF l) N.toNat) → Fr (two h) σ σ' → Q zu σ') : WP m_Leads_bend 0 [zr g, zr h, zu, zu, zu, zu] [] σ (0, 0) Q := by
  have hlen := hp.len
  have h4 := hp.2.1
  have fin : Unit → ∀ (N : Nat) (τ : ZM), (∀ n : Int, 0 ≤ n → n < (N : Int) → 0 < bnF l n) → bnF l (N : Int) ≤ 0 → Lz τ h (tbl (bnF l) N) → Fr (two h) σ τ → Q zu τ := fun _ N τ hn he hT f1 => q (N : Int) ⟨by omega, hn, by show ¬ 0 < bnF l (N : Int); omega⟩ τ (by rw [Int.toNat_natCast]; exact hT) f1
  have k6 : ∀ (e j : Nat) (u3 u4 u5 : PV) (τ : ZM), j + e = l.length → (∀ n : Int, 0 ≤ n → n < ((2 * j : Nat) : Int) → 0 < bnF l n) → Lz τ h (tbl (bnF l) (2 * j)) → Fr (two h) σ τ → WP m_Leads_bend 6 [zr g, zr h, zi (j : Int), u3, u4, u5] [] τ (0, 0) Q := by
    intro e
    induction e with
    | zero =>
      intro j u3 u4 u5 τ hj hn hT f1
      have hlT := f1.lz (by omega) (by omega) hl
      have hlT1 := hlT.1
      have he := bnF_end (l := l)
      refine r_Leads_bend_6 ?_
      simp only [(f1.sumO og).1, hlT1, zrI, zrL, zrR, ne_eq, true_and, and_true, true_or, or_true, not_true_eq_false, not_false_eq_true, false_and, and_false, forall_const, true_implies, false_implies, implies_true, reduceCtorEq, Int.reduceEq, Int.reduceNe, Int.reduceLT, Int.reduceLE, Int.reduceNeg, Nat.reduceEqDiff, if_true, if_false, reduceIte, Int.reduceMul, Int.reduceAdd, Int.reduceSub]
      refine ⟨fun _ => fin () (2 * j) τ hn ?_ hT f1, fun w => by omega⟩
      rw [show ((2 * j : Nat) : Int) = 2 * (l.length : Int) by omega]
      omega
    | succ e ih =>
      intro j u3 u4 u5 τ hj hn hT f1
      have ogT := f1.sumO og
      have ohT := f1.sumO oh
      have hlT := f1.lz (by omega) (by omega) hl
      have hlT1 := hlT.1
      have hr := hp.rng (j : Int)
      have e2 : Int.tdiv (ga l (j : Int)) 2 = bnR l (j : Int) := by
        rw [Int.tdiv_eq_ediv_of_nonneg (by omega)]
        unfold bnR
        rw [if_pos (by omega)]
      have hRb := bnR_bd hp (j : Int)
      have t1 : 0 ≤ bnT l (j : Int) ∧ bnT l (j : Int) ≤ (l.length : Int) := bnTp_bd l.length
      have t2 : 0 ≤ bnT l ((j : Int) + 1) ∧ bnT l ((j : Int) + 1) ≤ (l.length : Int) := bnTp_bd l.length
      have be := bnF_e (l := l) (j := (j : Int))
      have bo := bnF_o (l := l) (j := (j : Int))
      have bd := bnF_down hp (n := 2 * (j : Int)) (by omega)
      refine r_Leads_bend_6 ?_
      simp only [ogT.1, hlT1, zrI, zrL, zrR, ne_eq, true_and, and_true, true_or, or_true, not_true_eq_false, not_false_eq_true, false_and, and_false, forall_const, true_implies, false_implies, implies_true, reduceCtorEq, Int.reduceEq, Int.reduceNe, Int.reduceLT, Int.reduceLE, Int.reduceNeg, Nat.reduceEqDiff, if_true, if_false, reduceIte, Int.reduceMul, Int.reduceAdd, Int.reduceSub]
      refine ⟨fun w => by omega, fun _ => t_Sum_at ogT hlT ?_⟩
      simp only [e2, zrI, zrL, zrR, ne_eq, true_and, and_true, true_or, or_true, not_true_eq_false, not_false_eq_true, false_and, and_false, forall_const, true_implies, false_implies, implies_true, reduceCtorEq, Int.reduceEq, Int.reduceNe, Int.reduceLT, Int.reduceLE, Int.reduceNeg, Nat.reduceEqDiff, if_true, if_false, reduceIte, Int.reduceMul, Int.reduceAdd, Int.reduceSub]
      refine ⟨by omega, by omega, t_halves ogT hlT hp ?_⟩
      simp only [zrI, zrL, zrR, ne_eq, true_and, and_true, true_or, or_true, not_true_eq_false, not_false_eq_true, false_and, and_false, forall_const, true_implies, false_implies, implies_true, reduceCtorEq, Int.reduceEq, Int.reduceNe, Int.reduceLT, Int.reduceLE, Int.reduceNeg, Nat.reduceEqDiff, if_true, if_false, reduceIte, Int.reduceMul, Int.reduceAdd, Int.reduceSub]
      refine ⟨by omega, by omega, by omega, t_halves ogT hlT hp ?_⟩
      simp only [ohT.1, zrI, zrL, zrR, ne_eq, true_and, and_true, true_or, or_true, not_true_eq_false, not_false_eq_true, false_and, and_false, forall_const, true_implies, false_implies, implies_true, reduceCtorEq, Int.reduceEq, Int.reduceNe, Int.reduceLT, Int.reduceLE, Int.reduceNeg, Nat.reduceEqDiff, if_true, if_false, reduceIte, Int.reduceMul, Int.reduceAdd, Int.reduceSub]
      rw [show bnR l (j : Int) - (j : Int) + bnT l (j : Int) - (j : Int) = bnF l (2 * (j : Int)) by omega, show bnR l (j : Int) - (j : Int) + bnT l ((j : Int) + 1) - (j : Int) - 1 = bnF l (2 * (j : Int) + 1) by omega]
      refine ⟨by omega, by omega, by omega, fun w => ⟨fun w2 => by omega, fun w2 => fin () (2 * j) τ hn (by rw [show ((2 * j : Nat) : Int) = 2 * (j : Int) by omega]; exact w) hT f1⟩, fun w => ?_⟩
      have hn1 : ∀ n : Int, 0 ≤ n → n < ((2 * j + 1 : Nat) : Int) → 0 < bnF l n := fun n n0 n1 => by
        by_cases c : n = 2 * (j : Int)
        · rw [c]; exact w
        · exact hn n n0 (by omega)
      obtain ⟨r1, r2, r3⟩ := Pt.room (f := bnF l) (n := 2 * j + 1) (j := 2 * j) (bn_Pt hp ho hn1) (by omega)
      rw [show ((2 * j : Nat) : Int) = 2 * (j : Int) by omega] at r2
      refine t_Sum_add ohT hT r1 (by omega) (fun υ j1 j2 => ?_)
      have j1' : Lz υ h (tbl (bnF l) (2 * j + 1)) := by
        rw [tbl_snoc, show ((2 * j : Nat) : Int) = 2 * (j : Int) by omega]
        exact j1
      have ohU := j2.sumO ohT
      simp only [ohU.1, zrI, zrL, zrR, ne_eq, true_and, and_true, true_or, or_true, not_true_eq_false, not_false_eq_true, false_and, and_false, forall_const, true_implies, false_implies, implies_true, reduceCtorEq, Int.reduceEq, Int.reduceNe, Int.reduceLT, Int.reduceLE, Int.reduceNeg, Nat.reduceEqDiff, if_true, if_false, reduceIte, Int.reduceMul, Int.reduceAdd, Int.reduceSub]
      refine ⟨fun w2 => ?_, fun w2 => fin () (2 * j + 1) υ hn1 (by rw [show ((2 * j + 1 : Nat) : Int) = 2 * (j : Int) + 1 by omega]; exact w2) j1' (f1.tr j2)⟩
      have hn2 : ∀ n : Int, 0 ≤ n → n < ((2 * j + 1 + 1 : Nat) : Int) → 0 < bnF l n := fun n n0 n1 => by
        by_cases c : n = 2 * (j : Int) + 1
        · rw [c]; exact w2
        · exact hn1 n n0 (by omega)
      obtain ⟨y1, y2, y3⟩ := Pt.room (f := bnF l) (n := 2 * j + 1 + 1) (j := 2 * j + 1) (bn_Pt hp ho hn2) (by omega)
      rw [show ((2 * j + 1 : Nat) : Int) = 2 * (j : Int) + 1 by omega] at y2
      refine t_Sum_add ohU j1' y1 (by omega) (fun ξ k1 k2 => ⟨by omega, ?_⟩)
      have := ih (j + 1) (zi (bnR l (j : Int) - (j : Int))) (zi (bnF l (2 * (j : Int)))) (zi (bnF l (2 * (j : Int) + 1))) ξ (by omega) (by rw [show 2 * (j + 1) = 2 * j + 1 + 1 by omega]; exact hn2) (by
        rw [show 2 * (j + 1) = 2 * j + 1 + 1 by omega, tbl_snoc, show ((2 * j + 1 : Nat) : Int) = 2 * (j : Int) + 1 by omega]
        exact k1) ((f1.tr j2).tr k2)
      rw [Int.natCast_succ] at this
      exact this
  refine r_Leads_bend_0 ?_
  simp only [oh.1, zrI, zrL, zrR, ne_eq, true_and, and_true, true_or, or_true, not_true_eq_false, not_false_eq_true, false_and, and_false, forall_const, true_implies, false_implies, implies_true, reduceCtorEq, Int.reduceEq, Int.reduceNe, Int.reduceLT, Int.reduceLE, Int.reduceNeg, Nat.reduceEqDiff, if_true, if_false, reduceIte, Int.reduceMul, Int.reduceAdd, Int.reduceSub]
  exact t_Sum_empty oh (fun τ w1 w2 => k6 l.length 0 _ _ _ τ (by omega) (fun n n0 n1 => by omega) w1 w2)
