/-! fillings: sums over all hooks -/
theorem sm_front {f : Int → Int} : ∀ n : Nat, sm f (n + 1) = f 0 + sm (fun i => f (i + 1)) n
  | 0 => by
    show 0 + f ((0 : Nat) : Int) = f 0 + 0
    rw [show ((0 : Nat) : Int) = 0 by rfl]
    omega
  | n + 1 => by
    show sm f (n + 1) + f ((n + 1 : Nat) : Int) = f 0 + (sm (fun i => f (i + 1)) n + f ((n : Int) + 1))
    rw [sm_front n, Int.natCast_succ]
    omega
theorem Pt_tail {a : Int} {t : List Int} (h : Pt (a :: t)) : Pt t := by
  have h1 := h.1 a List.mem_cons_self
  have h2 := h.2.1
  rw [List.sum_cons] at h2
  refine ⟨fun x hx => h.1 x (List.mem_cons_of_mem _ hx), by omega, fun i j i0 hij => ?_⟩
  have := h.2.2 (i + 1) (j + 1) (by omega) (by omega)
  rw [ga_cons i0, ga_cons (by omega)] at this
  exact this
theorem Pt_head {a : Int} {t : List Int} (h : Pt (a :: t)) : 1 ≤ a ∧ a ≤ 400 ∧ ga t 0 ≤ a := by
  have h1 := h.1 a List.mem_cons_self
  have h2 := h.rng 0
  have h3 := h.2.2 0 1 (by omega) (by omega)
  rw [ga_cons0] at h2 h3
  rw [show (1 : Int) = 0 + 1 by rfl, ga_cons (by omega)] at h3
  omega
theorem hk_0 {a : Int} {t : List Int} {j : Int} : hkN (a :: t) 0 j = a - j + colN t j := by
  unfold hkN legN colN
  rw [ga_cons0, sm_ext (f := fun k => if j < ga (a :: t) (0 + 1 + k) then 1 else 0) (g := fun k => if j < ga t k then 1 else 0) 400 (fun k k0 k1 => by
    show (if j < ga (a :: t) (0 + 1 + k) then (1 : Int) else 0) = if j < ga t k then 1 else 0
    rw [show 0 + 1 + k = k + 1 by omega, ga_cons k0])]
theorem hk_s {a : Int} {t : List Int} {i j : Int} (i0 : 0 ≤ i) : hkN (a :: t) (i + 1) j = hkN t i j := by
  unfold hkN legN
  rw [ga_cons i0, sm_ext (f := fun k => if j < ga (a :: t) (i + 1 + 1 + k) then 1 else 0) (g := fun k => if j < ga t (i + 1 + k) then 1 else 0) 400 (fun k k0 k1 => by
    show (if j < ga (a :: t) (i + 1 + 1 + k) then (1 : Int) else 0) = if j < ga t (i + 1 + k) then 1 else 0
    rw [show i + 1 + 1 + k = (i + 1 + k) + 1 by omega, ga_cons (by omega)])]
theorem hk_bd0 {a : Int} {t : List Int} (h : Pt (a :: t)) {j : Int} (j0 : 0 ≤ j) (j1 : j < a) : 1 ≤ a - j + colN t j ∧ a - j + colN t j ≤ (a :: t).sum := by
  have h1 := (colN_isFst (l := t) (j := j) (Pt_tail h) j0)
  have h2 := (Pt_tail h).len
  have h3 := h1.1.1
  rw [List.sum_cons]
  omega
theorem hk_bd : ∀ {l : List Int}, Pt l → ∀ (i : Nat) (j : Int), 0 ≤ j → j < ga l (i : Int) → 1 ≤ hkN l (i : Int) j ∧ hkN l (i : Int) j ≤ l.sum
  | [], h, i, j, j0, j1 => by
    rw [ga_out (by simp)] at j1
    omega
  | a :: t, h, 0, j, j0, j1 => by
    rw [show ((0 : Nat) : Int) = 0 by rfl] at j1 ⊢
    rw [ga_cons0] at j1
    rw [hk_0]
    exact hk_bd0 h j0 j1
  | a :: t, h, i + 1, j, j0, j1 => by
    rw [Int.natCast_succ] at j1 ⊢
    rw [ga_cons (by omega)] at j1
    rw [hk_s (by omega)]
    have := hk_bd (Pt_tail h) i j j0 j1
    have h1 := Pt_head h
    rw [List.sum_cons]
    omega
/-- a weight of hooks, over all squares -/
def hSm (w : Int → Int) : List Int → Int
  | [] => 0
  | a :: t => sm (fun j => w (a - j + colN t j)) a.toNat + hSm w t
def hkS (w : Int → Int) (l : List Int) (i : Nat) : Int := sm (fun r => sm (fun j => w (hkN l r j)) (ga l r).toNat) i
theorem hkS_eq {w : Int → Int} : ∀ l : List Int, hkS w l l.length = hSm w l
  | [] => rfl
  | a :: t => by
    show sm (fun r => sm (fun j => w (hkN (a :: t) r j)) (ga (a :: t) r).toNat) (t.length + 1) = sm (fun j => w (a - j + colN t j)) a.toNat + hSm w t
    have e1 : sm (fun j => w (hkN (a :: t) 0 j)) (ga (a :: t) 0).toNat = sm (fun j => w (a - j + colN t j)) a.toNat := by
      rw [ga_cons0]
      exact sm_ext _ (fun j _ _ => by show w (hkN (a :: t) 0 j) = w (a - j + colN t j); rw [hk_0])
    have e2 : sm (fun r => sm (fun j => w (hkN (a :: t) (r + 1) j)) (ga (a :: t) (r + 1)).toNat) t.length = hkS w t t.length := by
      refine sm_ext _ (fun r r0 r1 => ?_)
      show sm (fun j => w (hkN (a :: t) (r + 1) j)) (ga (a :: t) (r + 1)).toNat = sm (fun j => w (hkN t r j)) (ga t r).toNat
      rw [ga_cons r0]
      exact sm_ext _ (fun j _ _ => by show w (hkN (a :: t) (r + 1) j) = w (hkN t r j); rw [hk_s r0])
    rw [sm_front, e1, e2, hkS_eq t]
theorem hSm_ext {w w' : Int → Int} {N : Int} (he : ∀ h, 1 ≤ h → h ≤ N → w h = w' h) : ∀ l : List Int, Pt l → l.sum ≤ N → hSm w l = hSm w' l
  | [], _, _ => rfl
  | a :: t, h, hN => by
    have h1 := Pt_head h
    show sm (fun j => w (a - j + colN t j)) a.toNat + hSm w t = sm (fun j => w' (a - j + colN t j)) a.toNat + hSm w' t
    have hN' := hN
    rw [List.sum_cons] at hN'
    rw [hSm_ext he t (Pt_tail h) (by omega), sm_ext (g := fun j => w' (a - j + colN t j)) a.toNat (fun j j0 j1 => by
      have := hk_bd0 h j0 (show j < a by omega)
      exact he _ (by omega) (by omega))]
theorem sm_mul {c : Int} {f : Int → Int} : ∀ n : Nat, sm (fun i => c * f i) n = c * sm f n
  | 0 => by
    show (0 : Int) = c * 0
    rw [Int.mul_zero]
  | n + 1 => by
    show sm (fun i => c * f i) n + c * f (n : Int) = c * (sm f n + f (n : Int))
    rw [sm_mul n, Int.mul_add]
theorem sm_dlt {c : Int → Int} {h : Int} : ∀ N : Nat, sm (fun v => c v * (if h = v then 1 else 0)) N = if 0 ≤ h ∧ h < (N : Int) then c h else 0
  | 0 => by rw [if_neg (by omega)]; rfl
  | N + 1 => by
    show sm (fun v => c v * (if h = v then 1 else 0)) N + c (N : Int) * (if h = (N : Int) then 1 else 0) = _
    rw [sm_dlt N]
    by_cases e : h = (N : Int)
    · rw [if_neg (by omega), if_pos e, if_pos (by omega), e]
      omega
    · rw [if_neg e]
      by_cases e2 : 0 ≤ h ∧ h < (N : Int)
      · rw [if_pos e2, if_pos (by omega)]
        omega
      · rw [if_neg e2, if_neg (by omega)]
        omega
theorem hSm_lin {c : Int → Int} {N : Nat} : ∀ l : List Int, sm (fun v => c v * hSm (fun h => if h = v then 1 else 0) l) N = hSm (fun h => if 0 ≤ h ∧ h < (N : Int) then c h else 0) l
  | [] => by
    have : sm (fun v => c v * hSm (fun h => if h = v then 1 else 0) []) N = sm (fun _ => 0) N := sm_ext N (fun v _ _ => Int.mul_zero _)
    rw [this, sm_zero]
    rfl
  | a :: t => by
    show sm (fun v => c v * (sm (fun j => if a - j + colN t j = v then 1 else 0) a.toNat + hSm (fun h => if h = v then 1 else 0) t)) N = sm (fun j => if 0 ≤ a - j + colN t j ∧ a - j + colN t j < (N : Int) then c (a - j + colN t j) else 0) a.toNat + _
    rw [← hSm_lin t]
    have e : ∀ v : Int, c v * (sm (fun j => if a - j + colN t j = v then 1 else 0) a.toNat + hSm (fun h => if h = v then 1 else 0) t) = sm (fun j => c v * (if a - j + colN t j = v then 1 else 0)) a.toNat + c v * hSm (fun h => if h = v then 1 else 0) t := fun v => by
      rw [Int.mul_add, sm_mul]
    rw [sm_ext (g := fun v => sm (fun j => c v * (if a - j + colN t j = v then 1 else 0)) a.toNat + c v * hSm (fun h => if h = v then 1 else 0) t) N (fun v _ _ => e v), sm_plus]
    congr 1
    rw [sm_swap]
    exact sm_ext _ (fun j _ _ => sm_dlt N)
def vqI (q : Nat) (v : Int) : Int := (vqN q v.toNat : Int)
/-- the power of q in n! over the product of all hooks -/
def exL (l : List Int) (q : Nat) : Int := sm (vqI q) (l.sum.toNat + 1) - hSm (vqI q) l
/-- how often v stands in n! over the product of all hooks -/
def p0L (l : List Int) (v : Int) : Int := 1 - hSm (fun h => if h = v then 1 else 0) l
theorem p0_ex {l : List Int} (hp : Pt l) (q : Nat) : sm (fun v => vqI q v * p0L l v) (l.sum.toNat + 1) = exL l q := by
  have hs := hp.len
  have e : ∀ v : Int, vqI q v * p0L l v = vqI q v - vqI q v * hSm (fun h => if h = v then 1 else 0) l := fun v => by
    unfold p0L
    rw [Int.mul_sub, Int.mul_one]
  rw [sm_ext (g := fun v => vqI q v - vqI q v * hSm (fun h => if h = v then 1 else 0) l) _ (fun v _ _ => e v), sm_minus, hSm_lin]
  unfold exL
  rw [hSm_ext (w := fun h => if 0 ≤ h ∧ h < ((l.sum.toNat + 1 : Nat) : Int) then vqI q h else 0) (w' := vqI q) (N := l.sum) (fun h h0 h1 => if_pos (by omega)) l hp (Int.le_refl _)]
theorem sm_upw {g f : Int → Int} {a w : Int} (a0 : 0 ≤ a) : ∀ n : Nat, sm (fun v => g v * up1 f a w v) n = sm (fun v => g v * f v) n + (if a < (n : Int) then g a * (w - f a) else 0)
  | 0 => by rw [if_neg (by omega)]; rfl
  | n + 1 => by
    show sm _ n + g (n : Int) * up1 f a w (n : Int) = sm _ n + g (n : Int) * f (n : Int) + _
    rw [sm_upw a0 n]
    unfold up1
    by_cases c : (n : Int) = a
    · rw [if_neg (by omega), if_pos c, if_pos (by omega), ← c, Int.mul_sub]
      omega
    · rw [if_neg c]
      by_cases c2 : a < (n : Int)
      · rw [if_pos c2, if_pos (by omega)]
        omega
      · rw [if_neg c2, if_neg (by omega)]
        omega
/-- one number broken up -/
def brS (p : Int → Int) (v d : Int) : Int → Int := up1 (up1 (up1 p d (p d + p v)) (v / d) (up1 p d (p d + p v) (v / d) + p v)) v 0
theorem brS_w {g p : Int → Int} {v d : Int} {n : Nat} (d0 : 2 ≤ d) (dv : d < v) (e0 : 2 ≤ v / d) (e1 : v / d < v) (hv : v < (n : Int)) (hg : g v = g d + g (v / d)) : sm (fun u => g u * brS p v d u) n = sm (fun u => g u * p u) n := by
  unfold brS
  rw [sm_upw (by omega), sm_upw (by omega), sm_upw (by omega), if_pos (by omega), if_pos (by omega), if_pos (by omega)]
  have x1 : up1 (up1 p d (p d + p v)) (v / d) (up1 p d (p d + p v) (v / d) + p v) v = p v := by
    unfold up1
    rw [if_neg (by omega), if_neg (by omega)]
  rw [x1, show p d + p v - p d = p v by omega, show up1 p d (p d + p v) (v / d) + p v - up1 p d (p d + p v) (v / d) = p v by omega, hg, Int.zero_sub, Int.mul_neg, Int.add_mul]
  omega
/-- at the end: the powers are those of the primes -/
theorem sm_single {F : Int → Int} {q : Int} (q0 : 0 ≤ q) : ∀ n : Nat, (∀ u : Int, 0 ≤ u → u < (n : Int) → u ≠ q → F u = 0) → sm F n = if q < (n : Int) then F q else 0
  | 0, _ => by rw [if_neg (by omega)]; rfl
  | n + 1, h => by
    show sm F n + F (n : Int) = _
    rw [sm_single q0 n (fun u u0 u1 => h u u0 (by omega))]
    by_cases c : (n : Int) = q
    · rw [if_neg (by omega), if_pos (by omega), c]
      omega
    · rw [h (n : Int) (by omega) (by omega) c]
      by_cases c2 : q < (n : Int)
      · rw [if_pos c2, if_pos (by omega)]
        omega
      · rw [if_neg c2, if_neg (by omega)]
        rfl
theorem br_end {p : Int → Int} {n : Nat} (hn : n ≤ 30) (hc : ∀ u : Int, 4 ≤ u → u ≤ (n : Int) → prB u.toNat = false → p u = 0) {q : Nat} (q2 : 2 ≤ q) (qn : q ≤ n) : p (q : Int) = sm (fun u => vqI q u * p u) (n + 1) := by
  by_cases c : prB q = true
  · rw [sm_single (q := (q : Int)) (by omega) (n + 1) (fun u u0 u1 ne => ?_), if_pos (by omega)]
    · have := (pr_pr (q := q) (u := 0) (by omega) (by omega) c).1
      unfold vqI
      rw [Int.toNat_natCast, this]
      omega
    · show vqI q u * p u = 0
      by_cases c2 : prB u.toNat = true ∨ u.toNat ≤ 1
      · have := (pr_pr (q := q) (u := u.toNat) (by omega) (by omega) c).2 (by omega) c2
        unfold vqI
        rw [this]
        exact Int.zero_mul _
      · have u4 : 4 ≤ u := by
          have h2 := pr_23
          rcases Nat.lt_or_ge u.toNat 4 with w | w
          · exfalso
            have : u.toNat = 2 ∨ u.toNat = 3 := by omega
            rcases this with e | e
            · exact c2 (Or.inl (by rw [e]; exact h2.1))
            · exact c2 (Or.inl (by rw [e]; exact h2.2))
          · omega
        rw [hc u u4 (by omega) (by
          cases hb : prB u.toNat with
          | true => exact absurd (Or.inl hb) c2
          | false => rfl)]
        exact Int.mul_zero _
  · have cf : prB q = false := by
      cases hb : prB q with
      | true => exact absurd hb c
      | false => rfl
    have h0 : sm (fun u => vqI q u * p u) (n + 1) = sm (fun _ => 0) (n + 1) := sm_ext _ (fun u _ _ => by
      show vqI q u * p u = 0
      unfold vqI
      rw [pr_no cf]
      exact Int.zero_mul _)
    rw [h0, sm_zero]
    refine hc (q : Int) ?_ (by omega) (by rw [Int.toNat_natCast]; exact cf)
    have h2 := pr_23
    rcases Nat.lt_or_ge q 4 with w | w
    · exfalso
      have : q = 2 ∨ q = 3 := by omega
      rcases this with e | e
      · rw [e] at cf; rw [h2.1] at cf; cases cf
      · rw [e] at cf; rw [h2.2] at cf; cases cf
    · omega
