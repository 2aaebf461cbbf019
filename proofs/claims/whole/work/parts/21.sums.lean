/-! the methods of Sum, in the words of lists -/
def Fst (P : Int → Prop) (r : Int) : Prop := 0 ≤ r ∧ (∀ i, 0 ≤ i → i < r → P i) ∧ ¬ P r
theorem Fst.uniq {P : Int → Prop} {r r' : Int} (h : Fst P r) (h' : Fst P r') : r = r' := by
  rcases Int.lt_trichotomy r r' with e | e | e
  · exact absurd (h'.2.1 r h.1 e) h.2.2
  · exact e
  · exact absurd (h.2.1 r' h'.1 e) h'.2.2
def sm (f : Int → Int) : Nat → Int
  | 0 => 0
  | n + 1 => sm f n + f n
theorem sm_ext {f g : Int → Int} : ∀ n : Nat, (∀ i : Int, 0 ≤ i → i < n → f i = g i) → sm f n = sm g n
  | 0, _ => rfl
  | n + 1, h => by
    show sm f n + f n = sm g n + g n
    rw [sm_ext n (fun i h0 h1 => h i h0 (by omega)), h n (by omega) (by omega)]
theorem sm_bd {f : Int → Int} {B : Int} : ∀ n : Nat, (∀ i : Int, 0 ≤ i → i < n → 0 ≤ f i ∧ f i ≤ B) → 0 ≤ sm f n ∧ sm f n ≤ n * B
  | 0, _ => by simp [sm]
  | n + 1, h => by
    have h1 := sm_bd n (fun i h0 h1 => h i h0 (by omega))
    have h2 := h n (by omega) (by omega)
    show 0 ≤ sm f n + f n ∧ sm f n + f n ≤ _
    have e : ((n + 1 : Nat) : Int) * B = n * B + B := by rw [Int.natCast_succ, Int.add_mul, Int.one_mul]
    omega
/-- a SUM of up to 400 -/
def Pt (l : List Int) : Prop := (∀ x ∈ l, 1 ≤ x) ∧ l.sum ≤ 400 ∧ ∀ i j : Int, 0 ≤ i → i ≤ j → ga l j ≤ ga l i
theorem sum_pos : ∀ l : List Int, (∀ x ∈ l, 1 ≤ x) → (l.length : Int) ≤ l.sum
  | [], _ => by simp
  | a :: l, h => by
    have h1 := sum_pos l (fun x hx => h x (List.mem_cons_of_mem _ hx))
    have h2 := h a List.mem_cons_self
    simp only [List.length_cons, List.sum_cons]
    omega
theorem sum_take : ∀ (l : List Int) (n : Nat), (∀ x ∈ l, 1 ≤ x) → 0 ≤ (l.take n).sum ∧ (l.take n).sum ≤ l.sum
  | [], n, _ => by simp
  | a :: l, 0, h => by
    have := sum_pos (a :: l) h
    simp only [List.take_zero, List.sum_nil]
    omega
  | a :: l, n + 1, h => by
    have h1 := sum_take l n (fun x hx => h x (List.mem_cons_of_mem _ hx))
    have h2 := h a List.mem_cons_self
    simp only [List.take_succ_cons, List.sum_cons]
    omega
theorem ga_mem {l : List Int} {i : Int} (h0 : 0 ≤ i) (h1 : i < (l.length : Int)) : ga l i ∈ l := by
  obtain ⟨n, rfl⟩ := Int.eq_ofNat_of_zero_le h0
  rw [ga_nat (by omega)]
  exact List.getElem_mem _
theorem Pt.len {l : List Int} (h : Pt l) : (l.length : Int) ≤ l.sum ∧ l.length ≤ 400 := by
  have := sum_pos l h.1
  have := h.2.1
  omega
theorem Pt.pos {l : List Int} (h : Pt l) {i : Int} (h0 : 0 ≤ i) (h1 : i < (l.length : Int)) : 1 ≤ ga l i := h.1 _ (ga_mem h0 h1)
theorem mem_le : ∀ (l : List Int), (∀ x ∈ l, 1 ≤ x) → ∀ x ∈ l, x ≤ l.sum
  | [], _, x, hx => by cases hx
  | a :: l, h, x, hx => by
    have h1 := sum_pos l (fun x hx => h x (List.mem_cons_of_mem _ hx))
    have h2 := h a List.mem_cons_self
    simp only [List.sum_cons]
    rcases List.mem_cons.mp hx with e | e
    · rw [e]; omega
    · have := mem_le l (fun x hx => h x (List.mem_cons_of_mem _ hx)) x e
      omega
theorem Pt.rng {l : List Int} (h : Pt l) (i : Int) : 0 ≤ ga l i ∧ ga l i ≤ 400 := by
  by_cases h0 : i < 0
  · rw [ga_neg h0]; omega
  · by_cases h1 : (l.length : Int) ≤ i
    · rw [ga_out h1]; omega
    · have := h.pos (i := i) (by omega) (by omega)
      have := mem_le l h.1 _ (ga_mem (i := i) (by omega) (by omega))
      have := h.2.1
      omega
theorem take_snoc {l : List Int} {i : Int} (h0 : 0 ≤ i) (h1 : i < (l.length : Int)) : l.take (i + 1).toNat = l.take i.toNat ++ [ga l i] := by
  obtain ⟨n, rfl⟩ := Int.eq_ofNat_of_zero_le h0
  have hn : n < l.length := by omega
  rw [show ((n : Int) + 1).toNat = n + 1 by omega, Int.toNat_natCast, ga_nat hn, List.take_succ_eq_append_getElem hn]
theorem t_Sum_takeFirst_6 {Q : ZQ} {h o : Nat} {l : List Int} {n : Int} (hd : h ≠ o ∧ h ≠ o + 1 ∧ h + 1 ≠ o) (hp : Pt l) (hn : n ≤ (l.length : Int)) : ∀ (k : Nat) (i : Int) (σ : ZM), 0 ≤ i → i + k = n → SumO σ h → SumO σ o → Lz σ o l → Lz σ h (l.take i.toNat) → (∀ σ', Lz σ' h (l.take n.toNat) → Fr (two h) σ σ' → Q zu σ') → WP m_Sum_takeFirst 6 [zr h, zr o, zi n, zi i] [] σ (0, 0) Q
  | 0, i, σ, h0, hk, oh, oo, hlo, hlh, q => by
    have : i = n := by omega
    subst this
    exact r_Sum_takeFirst_6 ⟨fun _ => q σ hlh Fr.rf, fun c => absurd c (by omega)⟩
  | k + 1, i, σ, h0, hk, oh, oo, hlo, hlh, q => by
    have hlen := hp.len
    have hi : i < (l.length : Int) := by omega
    have hs := sum_take l (i + 1).toNat hp.1
    rw [take_snoc h0 hi] at hs
    have hsum : (l.take i.toNat ++ [ga l i]).sum = (l.take i.toNat).sum + ga l i := by simp
    have h4 := hp.2.1
    refine r_Sum_takeFirst_6 ⟨fun c => absurd c (by omega), fun c => ⟨oo.1, t_Sum_at oo hlo ⟨oh.1, t_Sum_add oh hlh ?_ ?_ (fun σ' hl' hf => ⟨by omega, ?_⟩)⟩⟩⟩
    · rw [List.length_take]; omega
    · omega
    · rw [← take_snoc h0 hi] at hl'
      refine t_Sum_takeFirst_6 hd hp hn k (i + 1) σ' (by omega) (by omega) (hf.sumO oh) (hf.sumO oo) (hf.lz (by omega) (by omega) hlo) hl' (fun σ2 g1 g2 => q σ2 g1 (hf.tr g2))
theorem t_Sum_takeFirst {Q : ZQ} {h o : Nat} {l : List Int} {n : Int} {σ : ZM} (hd : h ≠ o ∧ h ≠ o + 1 ∧ h + 1 ≠ o) (hp : Pt l) (h0 : 0 ≤ n) (hn : n ≤ (l.length : Int)) (oh : SumO σ h) (oo : SumO σ o) (hlo : Lz σ o l) (q : ∀ σ', Lz σ' h (l.take n.toNat) → Fr (two h) σ σ' → Q zu σ') : WP m_Sum_takeFirst 0 [zr h, zr o, zi n, zu] [] σ (0, 0) Q := by
  refine r_Sum_takeFirst_0 ⟨oh.1, t_Sum_empty oh (fun σ' g1 g2 => ?_)⟩
  exact t_Sum_takeFirst_6 hd hp hn n.toNat 0 σ' (by omega) (by omega) (g2.sumO oh) (g2.sumO oo) (g2.lz (by omega) (by omega) hlo) (by simpa using g1) (fun σ2 e1 e2 => q σ2 e1 (g2.tr e2))
theorem t_Sum_take {Q : ZQ} {h o : Nat} {l : List Int} {σ : ZM} (hd : h ≠ o ∧ h ≠ o + 1 ∧ h + 1 ≠ o) (hp : Pt l) (oh : SumO σ h) (oo : SumO σ o) (hlo : Lz σ o l) (q : ∀ σ', Lz σ' h l → Fr (two h) σ σ' → Q zu σ') : WP m_Sum_take 0 [zr h, zr o] [] σ (0, 0) Q := by
  refine r_Sum_take_0 ⟨oo.1, oh.1, ?_⟩
  rw [hlo.1]
  refine t_Sum_takeFirst hd hp (by omega) (by omega) oh oo hlo (fun σ' g1 g2 => q σ' ?_ g2)
  rw [Int.toNat_natCast, List.take_length] at g1
  exact g1
theorem t_Sum_side_2 {Q : ZQ} {h : Nat} {l : List Int} {σ : ZM} (o : SumO σ h) (hl : Lz σ h l) (q : ∀ r, Fst (fun i => i < ga l i) r → Q (zi r) σ) : ∀ (k : Nat) (i : Int), 0 ≤ i → i + k = 401 → (∀ j, 0 ≤ j → j < i → j < ga l j) → WP m_Sum_side 2 [zr h, zi i] [] σ (0, 0) Q
  | 0, i, h0, hk, hb => by
    have h3 := hl.2.2.1
    refine r_Sum_side_2 ⟨o.1, fun c => q i ⟨h0, hb, ?_⟩, fun c => absurd c (by rw [hl.1]; omega)⟩
    show ¬ i < ga l i
    rw [ga_out (by rw [← hl.1]; exact c)]
    omega
  | k + 1, i, h0, hk, hb => by
    have h3 := hl.2.2.1
    have h1 := hl.1
    refine r_Sum_side_2 ⟨o.1, fun c => q i ⟨h0, hb, ?_⟩, fun c => ⟨o.1, o.arr h0 (by omega), fun c2 => q i ⟨h0, hb, ?_⟩, fun c2 => ⟨by omega, ?_⟩⟩⟩
    · show ¬ i < ga l i
      rw [ga_out (by rw [← hl.1]; exact c)]
      omega
    · show ¬ i < ga l i
      rw [o.2.1, hl.2.2.2 i h0 (by omega)] at c2
      omega
    · rw [o.2.1, hl.2.2.2 i h0 (by omega)] at c2
      refine t_Sum_side_2 o hl q k (i + 1) (by omega) (by omega) (fun j j0 j1 => ?_)
      by_cases e : j = i
      · rw [e]; exact c2
      · exact hb j j0 (by omega)
theorem t_Sum_side {Q : ZQ} {h : Nat} {l : List Int} {σ : ZM} (o : SumO σ h) (hl : Lz σ h l) (q : ∀ r, Fst (fun i => i < ga l i) r → Q (zi r) σ) : WP m_Sum_side 0 [zr h, zu] [] σ (0, 0) Q :=
  r_Sum_side_0 (t_Sum_side_2 o hl q 401 0 (by omega) (by omega) (fun j j0 j1 => by omega))
theorem t_Sum_firstLessSize {Q : ZQ} {h : Nat} {l : List Int} {σ : ZM} (o : SumO σ h) (hp : Pt l) (hl : Lz σ h l) (q : Q (zi (ga l 0 - (l.length : Int))) σ) : WP m_Sum_firstLessSize 0 [zr h] [] σ (0, 0) Q := by
  have h1 := hp.rng 0
  have h2 := hl.2.2.1
  refine r_Sum_firstLessSize_0 ⟨o.1, t_Sum_at o hl ⟨o.1, ?_, ?_⟩⟩
  · rw [hl.1]; omega
  · rw [hl.1]; exact q
theorem t_Sum_unlike_4 {Q : ZQ} {h : Nat} {l : List Int} {σ : ZM} (o : SumO σ h) (hl : Lz σ h l) (q : Q (zi (sm (fun i => if ga l (i + 1) < ga l i then 1 else 0) l.length)) σ) : ∀ (k : Nat) (i : Nat), i + k = l.length → WP m_Sum_unlike 4 [zr h, zi (sm (fun i => if ga l (i + 1) < ga l i then 1 else 0) i), zi (i : Int)] [] σ (0, 0) Q
  | 0, i, hk => by
    have : i = l.length := by omega
    subst this
    refine r_Sum_unlike_4 ⟨o.1, fun _ => q, fun c => absurd c (by rw [hl.1]; omega)⟩
  | k + 1, i, hk => by
    have h3 := hl.2.2.1
    have hb := sm_bd (f := fun i => if ga l (i + 1) < ga l i then 1 else 0) (B := 1) i (fun j _ _ => by split <;> omega)
    have ih := t_Sum_unlike_4 o hl q k (i + 1) (by omega)
    have e1 : sm (fun i => if ga l (i + 1) < ga l i then 1 else 0) (i + 1) = sm (fun i => if ga l (i + 1) < ga l i then 1 else 0) i + (if ga l ((i : Int) + 1) < ga l i then 1 else 0) := rfl
    rw [e1, Int.natCast_succ] at ih
    refine r_Sum_unlike_4 ⟨o.1, fun c => absurd c (by rw [hl.1]; omega), fun c => ⟨o.1, t_Sum_at o hl ⟨by omega, o.1, t_Sum_at o hl ⟨fun c2 => ⟨by omega, by omega, ?_⟩, fun c2 => ⟨by omega, by omega, ?_⟩⟩⟩⟩⟩
    · rw [if_neg (by omega)] at ih; exact ih
    · rw [if_pos (by omega)] at ih; exact ih
theorem t_Sum_unlike {Q : ZQ} {h : Nat} {l : List Int} {σ : ZM} (o : SumO σ h) (hl : Lz σ h l) (q : Q (zi (sm (fun i => if ga l (i + 1) < ga l i then 1 else 0) l.length)) σ) : WP m_Sum_unlike 0 [zr h, zu, zu] [] σ (0, 0) Q :=
  r_Sum_unlike_0 (t_Sum_unlike_4 o hl q l.length 0 (by omega))
theorem t_Sum_corners {Q : ZQ} {h : Nat} {l : List Int} {σ : ZM} (o : SumO σ h) (hl : Lz σ h l) (q : Q (zi (sm (fun i => if ga l (i + 1) < ga l i then 1 else 0) l.length)) σ) : WP m_Sum_corners 0 [zr h] [] σ (0, 0) Q :=
  r_Sum_corners_0 ⟨o.1, t_Sum_unlike o hl q⟩
theorem t_Sum_odd_4 {Q : ZQ} {h : Nat} {l : List Int} {σ : ZM} (o : SumO σ h) (hp : Pt l) (hl : Lz σ h l) (q : Q (zi (sm (fun i => ga l i % 2) l.length)) σ) : ∀ (k : Nat) (i : Nat), i + k = l.length → WP m_Sum_odd 4 [zr h, zi (sm (fun i => ga l i % 2) i), zi (i : Int)] [] σ (0, 0) Q
  | 0, i, hk => by
    have : i = l.length := by omega
    subst this
    refine r_Sum_odd_4 ⟨o.1, fun _ => q, fun c => absurd c (by rw [hl.1]; omega)⟩
  | k + 1, i, hk => by
    have h3 := hl.2.2.1
    have hb := sm_bd (f := fun i => ga l i % 2) (B := 1) i (fun j _ _ => by omega)
    have ih := t_Sum_odd_4 o hp hl q k (i + 1) (by omega)
    have e1 : sm (fun i => ga l i % 2) (i + 1) = sm (fun i => ga l i % 2) i + ga l i % 2 := rfl
    rw [e1, Int.natCast_succ] at ih
    have hr := hp.rng (i : Int)
    have e2 : zI σ (zR σ h 0) (i : Int) = ga l i := by rw [o.2.1]; exact hl.2.2.2 _ (by omega) (by omega)
    refine r_Sum_odd_4 ⟨o.1, fun c => absurd c (by rw [hl.1]; omega), fun c => ⟨o.1, o.arr (by omega) (by omega), by decide, ?_, ?_, by omega, ?_⟩⟩
    · rw [e2, Int.tdiv_eq_ediv_of_nonneg hr.1]; omega
    · rw [e2, Int.tmod_eq_emod_of_nonneg hr.1]; omega
    · rw [e2, Int.tmod_eq_emod_of_nonneg hr.1]; exact ih
theorem t_Sum_odd {Q : ZQ} {h : Nat} {l : List Int} {σ : ZM} (o : SumO σ h) (hp : Pt l) (hl : Lz σ h l) (q : Q (zi (sm (fun i => ga l i % 2) l.length)) σ) : WP m_Sum_odd 0 [zr h, zu, zu] [] σ (0, 0) Q :=
  r_Sum_odd_0 (t_Sum_odd_4 o hp hl q l.length 0 (by omega))
