/-! join: bounds; one answer for two widths -/
theorem bead_bd {B : BF} {p T : Nat} (h : B p = true) (hp : p < T) : p ≤ eB B T + cB B p ∧ cB B p + 1 ≤ cB B T := by
  have h1 := eB_mono (B := B) (show p + 1 ≤ T by omega)
  have h2 := cB_mono (B := B) (show p + 1 ≤ T by omega)
  have e1 : eB B (p + 1) = eB B p + (if B p then p - cB B p else 0) := rfl
  have e2 : cB B (p + 1) = cB B p + (if B p then 1 else 0) := rfl
  rw [if_pos h] at e1 e2
  omega
def JOk (l : List Int) (q : Nat → List Int) (t W : Nat) : Prop := 2 ≤ t ∧ t ≤ 12 ∧ Pt l ∧ W ≤ 411 ∧ l.length ≤ W ∧ (∀ r, r < t → Pt (q r) ∧ (q r).length ≤ rcN (stB l W W) t r) ∧ l.sum.toNat + t * sQ q t ≤ 400
theorem JOk.t0 {l : List Int} {q : Nat → List Int} {t W : Nat} (o : JOk l q t W) : 2 ≤ t := o.1
theorem JOk.t1 {l : List Int} {q : Nat → List Int} {t W : Nat} (o : JOk l q t W) : t ≤ 12 := o.2.1
theorem JOk.hp {l : List Int} {q : Nat → List Int} {t W : Nat} (o : JOk l q t W) : Pt l := o.2.2.1
theorem JOk.hW {l : List Int} {q : Nat → List Int} {t W : Nat} (o : JOk l q t W) : W ≤ 411 := o.2.2.2.1
theorem JOk.hl {l : List Int} {q : Nat → List Int} {t W : Nat} (o : JOk l q t W) : l.length ≤ W := o.2.2.2.2.1
theorem JOk.hq {l : List Int} {q : Nat → List Int} {t W : Nat} (o : JOk l q t W) : ∀ r, r < t → Pt (q r) ∧ (q r).length ≤ rcN (stB l W W) t r := o.2.2.2.2.2.1
theorem JOk.hs {l : List Int} {q : Nat → List Int} {t W : Nat} (o : JOk l q t W) : l.sum.toNat + t * sQ q t ≤ 400 := o.2.2.2.2.2.2
theorem JOk.far0 {l : List Int} {q : Nat → List Int} {t W : Nat} (o : JOk l q t W) : ∀ x, 811 ≤ x → stB l W W x = false := fun x hx => stB_far o.hp W (Nat.le_refl _) x (by have := o.hW; omega)
theorem JOk.e {l : List Int} {q : Nat → List Int} {t W : Nat} (o : JOk l q t W) : eB (jB l q t W) (t * 1300) ≤ 400 := by
  obtain ⟨t0, t1, hp, hW, hl, hq, hs⟩ := o
  have far : ∀ x, 811 ≤ x → stB l W W x = false := fun x hx => stB_far hp W (Nat.le_refl _) x (by omega)
  obtain ⟨h1, h2⟩ := jB_cp (by omega) t1 hp hW hq
  have h3 := eB_pB (jB l q t W) (t * 1300)
  have h4 := eB_pB (coB (stB l W W) t) (t * 1300)
  rw [h1, h2] at h3
  have hm : 811 ≤ t * 1300 := by
    have := Nat.mul_le_mul_right 1300 t0
    omega
  have h5 := eB_far (B := coB (stB l W W) t) (k := 811) (t * 1300) hm (coB_far (T := 811) (by omega) (by omega) (by omega) far)
  have h6 := coB_e (T := 811) (t := t) (by omega) (by omega) (by omega) far
  have h7 := eB_st hp hl (show 400 + W ≤ 811 by omega)
  omega
theorem JOk.far {l : List Int} {q : Nat → List Int} {t W : Nat} (o : JOk l q t W) : ∀ p, 400 + W ≤ p → jB l q t W p = false := fun p h => by
  have he := o.e
  obtain ⟨t0, t1, hp, hW, hl, hq, hs⟩ := o
  cases hb : jB l q t W p with
  | false => rfl
  | true =>
    exfalso
    have hr : p % t < t := Nat.mod_lt _ (by omega)
    have hn := rc_bd (r := p % t) (by omega) t1 hp hW hr
    have hi : p / t < 1300 := by
      rcases Nat.lt_or_ge (p / t) 1300 with z | z
      · exact z
      · have := stB_far (hq _ hr).1 (rcN (stB l W W) t (p % t)) (Nat.le_refl _) (p / t) (by omega)
        unfold jB at hb
        rw [this] at hb
        exact absurd hb (by simp)
    have h1 : t * (p / t + 1) ≤ t * 1300 := Nat.mul_le_mul_left _ (by omega)
    rw [Nat.mul_succ] at h1
    have hdm := Nat.mod_add_div p t
    have h2 := bead_bd hb (show p < t * 1300 by omega)
    have h3 := (jB_cp (by omega) t1 hp hW hq).1
    have h4 : cB (coB (stB l W W) t) (t * 1300) = cB (stB l W W) (t * 1300) := by
      rw [cB_runs, cB_runs]
      refine sN_ext t (fun r hr => ?_)
      have hn := rc_bd (r := r) (by omega) t1 hp hW hr
      rw [coB_run hr, (pB_low 1300).2, Nat.min_eq_left (by omega)]
      rfl
    have hm : 811 ≤ t * 1300 := by
      have := Nat.mul_le_mul_right 1300 t0
      omega
    have h5 := (stB_cp (T := t * 1300) hp (by omega) W (Nat.le_refl _)).1
    omega
theorem JOk.e' {l : List Int} {q : Nat → List Int} {t W T : Nat} (o : JOk l q t W) (hT : T ≤ 1300) : eB (jB l q t W) T ≤ 400 := by
  have h1 := o.e
  have := Nat.mul_le_mul_right 1300 o.t0
  have h2 := eB_mono (B := jB l q t W) (show T ≤ t * 1300 by omega)
  omega
theorem sQ_ge {q : Nat → List Int} {t r : Nat} (hr : r < t) : (q r).sum.toNat ≤ sQ q t := by
  unfold sQ
  have h1 := sN_mono (f := fun r => (q r).sum.toNat) (show r + 1 ≤ t by omega)
  have e : sN (fun r => (q r).sum.toNat) (r + 1) = sN (fun r => (q r).sum.toNat) r + (q r).sum.toNat := rfl
  omega
/-- each abacus that leaves t times the longest free is wide enough -/
theorem JOk.mk' {l : List Int} {q : Nat → List Int} {t W m : Nat} (t0 : 2 ≤ t) (t1 : t ≤ 12) (hp : Pt l) (hq : ∀ r, r < t → Pt (q r)) (hs : l.sum.toNat + t * sQ q t ≤ 400) (hW : W ≤ 411) (hm : ∀ r, r < t → (q r).length ≤ m) (h : t * m + l.length ≤ W) : JOk l q t W :=
  ⟨t0, t1, hp, hW, by omega, fun r hr => ⟨hq r hr, by
    have := low_rc (l := l) (t := t) (W := W) (r := r) (k := m) hr hW h
    have := hm r hr
    omega⟩, hs⟩
theorem JOk.len {l : List Int} {q : Nat → List Int} {t r : Nat} (hp : Pt l) (hq : Pt (q r)) (hs : l.sum.toNat + t * sQ q t ≤ 400) (hr : r < t) : t * (q r).length + l.length ≤ 400 := by
  have h1 := sQ_ge (q := q) hr
  have h2 := hp.len
  have h3 := hq.len
  have h4 : t * (q r).length ≤ t * sQ q t := Nat.mul_le_mul_left _ (by omega)
  omega
theorem widN_up {n m t : Nat} (t0 : 1 ≤ t) (h : n + t * m ≤ 400) : ∃ c, widN n t + t * m + t * c = widN 400 t := by
  unfold widN
  have h1 : (n + t - 1) / t + m = (n + t - 1 + t * m) / t := by rw [Nat.add_mul_div_left _ _ (by omega)]
  have h2 : (n + t - 1 + t * m) / t ≤ (400 + t - 1) / t := Nat.div_le_div_right (by omega)
  refine ⟨(400 + t - 1) / t - ((n + t - 1) / t + m), ?_⟩
  rw [Nat.mul_comm _ t, Nat.mul_comm _ t, ← Nat.mul_add, ← Nat.mul_add]
  congr 1
  omega
/-- the one answer -/
def jL (l : List Int) (q : Nat → List Int) (t : Nat) : List Int := rdL (jB l q t (widN 400 t)) 812
theorem jL_eq {l : List Int} {q : Nat → List Int} {t W c : Nat} (o : JOk l q t W) (o2 : JOk l q t (widN 400 t)) (e : W + t * c = widN 400 t) : rdL (jB l q t W) 1300 = jL l q t := by
  unfold jL
  have h1 := o2.far
  have h2 := o2.hW
  rw [← rdL_far (k := 812) (1300 + t * c) (by omega) (fun p hp => h1 p (by omega)), ← e, jB_sh (by have := o.t0; omega) o.t1 o.hp o.hl (by omega) (fun r hr => (o.hq r hr).2), rdL_sh]
theorem jL_Pt {l : List Int} {q : Nat → List Int} {t : Nat} (o : JOk l q t (widN 400 t)) : Pt (jL l q t) := rdL_Pt (o.e' (by omega))
/-- one runner changed: it holds q in width n -/
def liI (B : BF) (t r : Nat) (q : List Int) (n k : Nat) : BF := fun p => if p % t = r then stB q n k (p / t) else B p
theorem liI_0 {B : BF} {t r n : Nat} {q : List Int} : emB B t r = liI B t r q n 0 := by
  funext p
  unfold emB liI
  rfl
theorem liI_up {B : BF} {t r n k : Nat} {q : List Int} (hr : r < t) : upB (liI B t r q n k) (r + t * fB q n k) true = liI B t r q n (k + 1) := by
  funext p
  show (if p = r + t * fB q n k then true else liI B t r q n k p) = (if p % t = r then upB (stB q n k) (fB q n k) true (p / t) else B p)
  unfold liI upB
  by_cases c : p % t = r
  · rw [if_pos c, if_pos c]
    by_cases e : p / t = fB q n k
    · rw [if_pos e, if_pos ((dmi hr).mpr ⟨c, e⟩)]
    · rw [if_neg e, if_neg (fun w => e ((dmi hr).mp w).2)]
  · rw [if_neg c, if_neg c, if_neg (fun w => c ((dmi hr).mp w).1)]
/-- the first k runners lifted -/
def mjB (l : List Int) (q : Nat → List Int) (t W k : Nat) : BF := fun p => if p % t < k then jB l q t W p else stB l W W p
theorem mjB_rc {l : List Int} {q : Nat → List Int} {t W k : Nat} (hk : k < t) : rcN (mjB l q t W k) t k = rcN (stB l W W) t k := by
  unfold rcN
  have : runB (mjB l q t W k) t k = runB (stB l W W) t k := by
    funext i
    show mjB l q t W k (k + t * i) = stB l W W (k + t * i)
    unfold mjB
    rw [if_neg (by rw [(dm (t := t) (r := k) (i := i) hk).1]; omega)]
  rw [this]
theorem mjB_li {l : List Int} {q : Nat → List Int} {t W k : Nat} : liI (mjB l q t W k) t k (q k) (rcN (stB l W W) t k) (rcN (stB l W W) t k) = mjB l q t W (k + 1) := by
  funext p
  unfold liI mjB
  by_cases c : p % t = k
  · rw [if_pos c, if_pos (by omega)]
    unfold jB
    rw [c]
  · rw [if_neg c]
    by_cases c2 : p % t < k
    · rw [if_pos c2, if_pos (by omega)]
    · rw [if_neg c2, if_neg (by omega)]
theorem mjB_all {l : List Int} {q : Nat → List Int} {t W : Nat} (t0 : 1 ≤ t) : mjB l q t W t = jB l q t W := by
  funext x
  unfold mjB
  rw [if_pos (Nat.mod_lt _ (by omega))]
theorem mjB_0 {l : List Int} {q : Nat → List Int} {t W : Nat} : mjB l q t W 0 = stB l W W := by
  funext x
  unfold mjB
  rw [if_neg (by omega)]
theorem JOk.plc {l : List Int} {q : Nat → List Int} {t W r i : Nat} (o : JOk l q t W) (hr : r < t) (hi : i < rcN (stB l W W) t r) : r + t * fB (q r) (rcN (stB l W W) t r) i < 400 + W := by
  rcases Nat.lt_or_ge (r + t * fB (q r) (rcN (stB l W W) t r) i) (400 + W) with z | z
  · exact z
  · have h1 := o.far _ z
    have h2 : runB (jB l q t W) t r (fB (q r) (rcN (stB l W W) t r) i) = true := by
      rw [jB_run hr, stB_iff]
      exact ⟨i, hi, rfl⟩
    have h2 : jB l q t W (r + t * fB (q r) (rcN (stB l W W) t r) i) = true := h2
    rw [h1] at h2
    exact absurd h2 (by simp)
