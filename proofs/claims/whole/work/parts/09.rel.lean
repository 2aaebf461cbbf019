/-! the pure memory and the machine's heap, the pure frame and the machine's -/
def zra (base b : Nat) (a : Nat) : Option Nat := match a with
  | 0 => none
  | 1 => some b
  | a + 2 => some (base + a)
def zmv (base b : Nat) (v : PV) : Value := match v with
  | .inl x => .int (Int32.ofInt x)
  | .inr (.inl x) => .long x
  | .inr (.inr (.inl a)) => va_rf (zra base b a)
  | .inr (.inr (.inr _)) => .null
def zgd (v : PV) : Prop := match v with
  | .inl x => zin x
  | .inr (.inr (.inr _)) => False
  | _ => True
def zgl (v : PV) : Prop := v = zu ∨ zgd v
def zLR (base b : Nat) (jls : Array Slot) (n : Nat) (ls : List PV) : Prop := ls.length = n ∧ lv_has jls n [] ∧ ∀ i, zgd (znth ls i) → jls[i]? = some (.val (zmv base b (znth ls i)))
theorem zcat_mv {base b : Nat} {v : PV} : (zmv base b v).category = zcat v := by
  rcases v with x | x | x | x
  · rfl
  · rfl
  · rcases x with _ | _ | x <;> rfl
  · rfl
theorem zmv_1 {base b : Nat} {v : PV} (h : zisl v = false) : (zmv base b v).category = 1 := by
  rw [zcat_mv, zcat, h]
theorem znth_len {ls : List PV} {i : Nat} (h : ls.length ≤ i) : znth ls i = zu := by
  induction ls generalizing i with
  | nil => rfl
  | cons a l ih =>
    cases i with
    | zero => simp at h
    | succ i => exact ih (by simpa using h)
theorem znth_mem {ls : List PV} {i : Nat} (h : i < ls.length) : znth ls i ∈ ls := by
  induction ls generalizing i with
  | nil => simp at h
  | cons a l ih =>
    cases i with
    | zero => exact List.mem_cons_self
    | succ i => exact List.mem_cons_of_mem _ (ih (by simpa using h))
theorem zset1_len : ∀ (ls : List PV) (n : Nat) (v : PV), (zset1 ls n v).length = ls.length
  | [], _, _ => rfl
  | _ :: _, 0, _ => rfl
  | _ :: l, 1, v => by show (zset1 l 0 v).length + 1 = _; rw [zset1_len l 0 v]; rfl
  | _ :: l, n + 2, v => by show (zset1 l (n + 1) v).length + 1 = _; rw [zset1_len l (n + 1) v]; rfl
theorem zset2_len : ∀ (ls : List PV) (n : Nat) (v : PV), (zset2 ls n v).length = ls.length
  | [], _, _ => rfl
  | _ :: l, 0, _ => by show (zset1 l 0 zu).length + 1 = _; rw [zset1_len l 0 zu]; rfl
  | _ :: l, 1, v => by show (zset2 l 0 v).length + 1 = _; rw [zset2_len l 0 v]; rfl
  | _ :: l, n + 2, v => by show (zset2 l (n + 1) v).length + 1 = _; rw [zset2_len l (n + 1) v]; rfl
theorem zset1_at : ∀ (ls : List PV) (n : Nat) (v : PV) (j : Nat), n < ls.length → znth (zset1 ls n v) j = if j = n then v else if j + 1 = n then zkill (znth ls j) else znth ls j
  | [], _, _, _, h => by simp at h
  | a :: l, 0, v, 0, _ => rfl
  | a :: l, 0, v, j + 1, _ => by show znth l j = _; simp; rfl
  | a :: l, 1, v, 0, _ => by show zkill a = _; simp; rfl
  | a :: l, 1, v, j + 1, h => by
    show znth (zset1 l 0 v) j = _
    rw [zset1_at l 0 v j (by simpa using h)]
    simp
    rfl
  | a :: l, n + 2, v, 0, _ => by show a = _; simp; rfl
  | a :: l, n + 2, v, j + 1, h => by
    show znth (zset1 l (n + 1) v) j = _
    rw [zset1_at l (n + 1) v j (by simp at h; omega)]
    simp
    rfl
theorem zset2_at : ∀ (ls : List PV) (n : Nat) (v : PV) (j : Nat), n + 1 < ls.length → znth (zset2 ls n v) j = if j = n then v else if j = n + 1 then zu else if j + 1 = n then zkill (znth ls j) else znth ls j
  | [], _, _, _, h => by simp at h
  | a :: l, 0, v, 0, _ => rfl
  | a :: l, 0, v, j + 1, h => by
    show znth (zset1 l 0 zu) j = _
    rw [zset1_at l 0 zu j (by simpa using h)]
    simp
    rfl
  | a :: l, 1, v, 0, _ => by show zkill a = _; simp; rfl
  | a :: l, 1, v, j + 1, h => by
    show znth (zset2 l 0 v) j = _
    rw [zset2_at l 0 v j (by simp at h; omega)]
    simp
    rfl
  | a :: l, n + 2, v, 0, _ => by show a = _; simp; rfl
  | a :: l, n + 2, v, j + 1, h => by
    show znth (zset2 l (n + 1) v) j = _
    rw [zset2_at l (n + 1) v j (by simp at h; omega)]
    simp
    rfl
theorem zkill_gd {v : PV} (h : zgd (zkill v)) : zkill v = v ∧ zisl v = false := by
  rcases v with x | x | x | x
  · exact ⟨rfl, rfl⟩
  · exact h.elim
  · exact ⟨rfl, rfl⟩
  · exact h.elim
theorem zgd_islF {v : PV} (h : zgd v) : v ≠ zu := by
  rintro rfl
  exact h
/-- all that a pure frame says of the machine's locals, as a list -/
def zll (base b : Nat) (ls : List PV) : List (Nat × Value) := (List.range ls.length).map (fun i => (i, zmv base b (znth ls i)))
def zls (base b : Nat) (ls : List PV) : List (Nat × Value) := (zll base b ls).filter (fun q => match znth ls q.1 with | .inr (.inr (.inr _)) => false | _ => true)
theorem zls_has {base b : Nat} {jls : Array Slot} {n : Nat} {ls : List PV} (h : zLR base b jls n ls) (hg : ∀ v ∈ ls, zgl v) : lv_has jls n (zls base b ls) := by
  refine ⟨h.2.1.1, h.2.1.2.1, fun q hq => ?_⟩
  obtain ⟨h1, h2⟩ := List.mem_filter.mp hq
  obtain ⟨i, hi, rfl⟩ := List.mem_map.mp h1
  have hi : i < ls.length := List.mem_range.mp hi
  rcases hg _ (znth_mem hi) with e | e
  · simp only [e] at h2
    cases h2
  · exact h.2.2 i e
theorem zls_mem {base b : Nat} {ls : List PV} {i : Nat} (hg : zgd (znth ls i)) : (i, zmv base b (znth ls i)) ∈ zls base b ls := by
  have hi : i < ls.length := by
    rcases Nat.lt_or_ge i ls.length with h | h
    · exact h
    · rw [znth_len h] at hg
      exact hg.elim
  refine List.mem_filter.mpr ⟨List.mem_map.mpr ⟨i, List.mem_range.mpr hi, rfl⟩, ?_⟩
  show (match znth ls i with | .inr (.inr (.inr _)) => false | _ => true) = true
  generalize znth ls i = v at hg
  rcases v with x | x | x | x <;> first | rfl | exact hg.elim
theorem zLR_set1 {base b : Nat} {jls jls' : Array Slot} {n : Nat} {ls : List PV} {k : Nat} {v : PV} (h : zLR base b jls n ls) (hk : k < n) (h' : lv_has jls' n ((k, zmv base b v) :: (zls base b ls).filter (fun q => !(q.1 == k) && !(q.1 + 1 == k && q.2.category == 2)))) : zLR base b jls' n (zset1 ls k v) := by
  refine ⟨by rw [zset1_len]; exact h.1, ⟨h'.1, h'.2.1, fun q hq => by cases hq⟩, fun i hi => ?_⟩
  rw [zset1_at ls k v i (by rw [h.1]; exact hk)] at hi ⊢
  by_cases e : i = k
  · subst e
    rw [if_pos rfl]
    exact h'.2.2 (i, zmv base b v) List.mem_cons_self
  · rw [if_neg e] at hi ⊢
    by_cases e2 : i + 1 = k
    · rw [if_pos e2] at hi ⊢
      obtain ⟨z1, z2⟩ := zkill_gd hi
      rw [z1] at hi ⊢
      refine h'.2.2 (i, zmv base b (znth ls i)) (List.mem_cons_of_mem _ (List.mem_filter.mpr ⟨zls_mem hi, ?_⟩))
      have : (zmv base b (znth ls i)).category = 1 := zmv_1 z2
      simp [e, this]
    · rw [if_neg e2] at hi ⊢
      refine h'.2.2 (i, zmv base b (znth ls i)) (List.mem_cons_of_mem _ (List.mem_filter.mpr ⟨zls_mem hi, ?_⟩))
      simp [e, e2]
theorem zLR_set2 {base b : Nat} {jls jls' : Array Slot} {n : Nat} {ls : List PV} {k : Nat} {v : PV} (h : zLR base b jls n ls) (hk : k + 1 < n) (h' : lv_has jls' n ((k, zmv base b v) :: (zls base b ls).filter (fun q => !(q.1 == k) && (!(q.1 == k + 1) && !(q.1 + 1 == k && q.2.category == 2))))) : zLR base b jls' n (zset2 ls k v) := by
  refine ⟨by rw [zset2_len]; exact h.1, ⟨h'.1, h'.2.1, fun q hq => by cases hq⟩, fun i hi => ?_⟩
  rw [zset2_at ls k v i (by rw [h.1]; exact hk)] at hi ⊢
  by_cases e : i = k
  · subst e
    rw [if_pos rfl]
    exact h'.2.2 (i, zmv base b v) List.mem_cons_self
  · rw [if_neg e] at hi ⊢
    by_cases e1 : i = k + 1
    · rw [if_pos e1] at hi
      exact hi.elim
    · rw [if_neg e1] at hi ⊢
      by_cases e2 : i + 1 = k
      · rw [if_pos e2] at hi ⊢
        obtain ⟨z1, z2⟩ := zkill_gd hi
        rw [z1] at hi ⊢
        refine h'.2.2 (i, zmv base b (znth ls i)) (List.mem_cons_of_mem _ (List.mem_filter.mpr ⟨zls_mem hi, ?_⟩))
        have : (zmv base b (znth ls i)).category = 1 := zmv_1 z2
        simp [e, e1, this]
      · rw [if_neg e2] at hi ⊢
        refine h'.2.2 (i, zmv base b (znth ls i)) (List.mem_cons_of_mem _ (List.mem_filter.mpr ⟨zls_mem hi, ?_⟩))
        simp [e, e1, e2]
theorem zset1_gl : ∀ {ls : List PV} {n : Nat} {v : PV}, (∀ w ∈ ls, zgl w) → zgl v → ∀ w ∈ zset1 ls n v, zgl w
  | [], _, _, _, _, _, h => by cases h
  | a :: l, 0, v, hg, hv, w, h => by
    rcases List.mem_cons.mp h with e | e
    · rw [e]; exact hv
    · exact hg w (List.mem_cons_of_mem _ e)
  | a :: l, 1, v, hg, hv, w, h => by
    rcases List.mem_cons.mp h with e | e
    · rw [e]
      rcases a with x | x | x | x
      · exact hg _ List.mem_cons_self
      · exact Or.inl rfl
      · exact hg _ List.mem_cons_self
      · exact Or.inl rfl
    · exact zset1_gl (fun w hw => hg w (List.mem_cons_of_mem _ hw)) hv w e
  | a :: l, n + 2, v, hg, hv, w, h => by
    rcases List.mem_cons.mp h with e | e
    · rw [e]; exact hg _ List.mem_cons_self
    · exact zset1_gl (fun w hw => hg w (List.mem_cons_of_mem _ hw)) hv w e
theorem zset2_gl : ∀ {ls : List PV} {n : Nat} {v : PV}, (∀ w ∈ ls, zgl w) → zgl v → ∀ w ∈ zset2 ls n v, zgl w
  | [], _, _, _, _, _, h => by cases h
  | a :: l, 0, v, hg, hv, w, h => by
    rcases List.mem_cons.mp h with e | e
    · rw [e]; exact hv
    · exact zset1_gl (fun w hw => hg w (List.mem_cons_of_mem _ hw)) (Or.inl rfl) w e
  | a :: l, 1, v, hg, hv, w, h => by
    rcases List.mem_cons.mp h with e | e
    · rw [e]
      rcases a with x | x | x | x
      · exact hg _ List.mem_cons_self
      · exact Or.inl rfl
      · exact hg _ List.mem_cons_self
      · exact Or.inl rfl
    · exact zset2_gl (fun w hw => hg w (List.mem_cons_of_mem _ hw)) hv w e
  | a :: l, n + 2, v, hg, hv, w, h => by
    rcases List.mem_cons.mp h with e | e
    · rw [e]; exact hg _ List.mem_cons_self
    · exact zset2_gl (fun w hw => hg w (List.mem_cons_of_mem _ hw)) hv w e
/-- the value of a field by its kind -/
def zfv (base b : Nat) (σ : ZM) (a ci j : Nat) : Value := match zKd (zTy ci j) with
  | 1 => .long (zJ σ a j)
  | 2 => va_rf (zra base b (zR σ a j))
  | _ => .int (Int32.ofInt (zI σ a j))
def zaty (t : Nat) : FieldType := match t with
  | 100 => .int
  | 101 => .long
  | 102 => .boolean
  | 103 => .object RX9
  | 104 => .object RX4
  | _ => .array .long
def zav (base b : Nat) (σ : ZM) (a : Nat) (j : Nat) : Value := match (zS σ a).1 with
  | 100 => .int (Int32.ofInt (zI σ a j))
  | 101 => .long (zJ σ a j)
  | 102 => .int (Int32.ofInt (zI σ a j))
  | _ => va_rf (zra base b (zR σ a j))
/-- what the heap says of the pure cell a, at the address q -/
def zcl (base b : Nat) (D : va_G) (cx : Nat → ClassId) (σ : ZM) (a q : Nat) (H : Heap) : Prop :=
  ((zS σ a).1 < 12 ∧ t_OB q (D.1 (zS σ a).1) (zqc (zS σ a).1).2.2 (D.2 (zS σ a).1) H (zfv base b σ a (zS σ a).1)) ∨
  ((100 ≤ (zS σ a).1 ∧ (zS σ a).1 ≤ 105) ∧ H[q]? = some (arrV (cx (zS σ a).1) (zS σ a).2 (zav base b σ a)) ∧ (zS σ a).2 ≤ 1000000)
def zHp (base b L : Nat) (xs : Nat → Int32) (D : va_G) (cx : Nat → ClassId) (σ : ZM) (H : Heap) : Prop :=
  H.size = base + (zN σ - 2) ∧ 2 ≤ zN σ ∧ (∀ a, a + 2 < zN σ → zcl base b D cx σ (a + 2) (base + a) H) ∧ (∀ a j, zin (zI σ a j)) ∧ (zS σ 1).2 = L ∧ ∀ j : Nat, j < L → zI σ 1 j = (xs j).toInt
theorem zcl_kept {base b : Nat} {D : va_G} {cx : Nat → ClassId} {σ σ' : ZM} {a q : Nat} {H H1 : Heap} (h : zcl base b D cx σ a q H) (hq : H1[q]? = H[q]?) (hS : zS σ' a = zS σ a) (hI : ∀ j, zI σ' a j = zI σ a j) (hJ : ∀ j, zJ σ' a j = zJ σ a j) (hR : ∀ j, zR σ' a j = zR σ a j) : zcl base b D cx σ' a q H1 := by
  have hf : ∀ ci, zfv base b σ' a ci = zfv base b σ a ci := fun ci => funext fun j => by unfold zfv; rw [hI, hJ, hR]
  have ha : zav base b σ' a = zav base b σ a := funext fun j => by unfold zav; rw [hS, hI, hJ, hR]
  unfold zcl at h ⊢
  rw [hS, ha]
  rcases h with ⟨h1, h2⟩ | ⟨h1, h2, h3⟩
  · exact Or.inl ⟨h1, by rw [hf]; exact h2.kept hq⟩
  · exact Or.inr ⟨h1, hq.trans h2, h3⟩
theorem zcl_lt {base b : Nat} {D : va_G} {cx : Nat → ClassId} {σ : ZM} {a q : Nat} {H : Heap} (h : zcl base b D cx σ a q H) : q < H.size := by
  rcases h with ⟨_, cell, h2, -⟩ | ⟨_, h2, _⟩
  · exact (Array.getElem?_eq_some_iff.mp h2).1
  · exact (Array.getElem?_eq_some_iff.mp h2).1
