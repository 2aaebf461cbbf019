/-! arrays, answers -/
section ZARR
variable {base b L : Nat} {xs : Nat → Int32} {D : va_G} {cx : Nat → ClassId} {σ σ' : ZM} {H H1 : Heap} {a : Nat}
theorem zast_ok {t : Nat} {i : Int} {v : Value} (hH : zHp base b L xs D cx σ H) (ht : 100 ≤ t ∧ t ≤ 105) (ha : zarr σ a t i) (he : H1[base + (a - 2)]? = some (arrV (cx t) (zS σ a).2 (updV (zav base b σ a) i.toNat v))) (hz : H1.size = H.size) (ho : ∀ q, q ≠ base + (a - 2) → H1[q]? = H[q]?) (hN : zN σ' = zN σ) (hS : ∀ c, zS σ' c = zS σ c) (hI : ∀ c, c ≠ a → ∀ j, zI σ' c j = zI σ c j) (hJ : ∀ c, c ≠ a → ∀ j, zJ σ' c j = zJ σ c j) (hR : ∀ c, c ≠ a → ∀ j, zR σ' c j = zR σ c j) (hg : ∀ j, zin (zI σ' a j)) (hv : updV (zav base b σ a) i.toNat v = zav base b σ' a) : zHp base b L xs D cx σ' H1 := by
  obtain ⟨h1, h2, h3⟩ := zarr_at hH ht.1 ha
  refine zHp_put hH ha.1 ha.2.1 hz ho hN hS hI hJ hR hg (Or.inr ?_)
  rw [hS, ha.2.2.1]
  exact ⟨ht, by rw [he, hv], h2⟩
theorem zvp {t : Nat} {i : Int} (hi : zin i) (ha : zarr σ a t i) : ∀ (c : ClassId) (f : Nat → Value), ¬ (Int32.ofInt i < 0 ∨ (arrV c (zS σ a).2 f).slots.size ≤ (Int32.ofInt i).toNatClampNeg) := by
  intro c f
  rw [arrV_size]
  exact zin_vp hi ha.2.2.2.1 ha.2.2.2.2
theorem zrd {t : Nat} {i : Int} (hi : zin i) (ha : zarr σ a t i) (c : ClassId) (f : Nat → Value) : (arrV c (zS σ a).2 f).slots[(Int32.ofInt i).toNatClampNeg]? = some (f i.toNat) := by
  have h1 := ha.2.2.2.1
  have h2 := ha.2.2.2.2
  rw [zin_nat hi h1, arrV_read _ _ (by omega)]
end ZARR
section ZS1
variable {l : Launch} {base b L : Nat} {xs : Nat → Int32} {D : va_G} {cx : Nat → ClassId} {mi pc : Nat} {x : List Nat} {lz st : List PV} {σ : ZM} {k : Nat × Nat} {Q : ZQ} {p : Program} {e : Env} {s : State} {mid : MethodId} {args : Array Value} {below : List Frame} {meth : Method} {c : Code} {R : Room} {jls : Array Slot} {H : Heap} {locs : List Loc}

theorem zs_laload  (Z : ZCt base b L xs D cx mi p s mid args meth c R) (hd : decode (zB mi) pc = .ok (.laload, 1)) (ho : zOkI mi pc (.laload) x = true) (hR : zRL base b L xs D cx mi s σ H jls lz st k locs)
    (h : znx (zf mi) 1 (.laload) x pc lz st σ k (fun pc' ls' st' σ' k' => zSnd l base b L xs D cx mi pc' ls' st' σ' k' Q) Q (fun m' a σ' R => zSnd l base b L xs D cx m' 0 a [] σ' (0, 0) R)) : W p l e R s mid args below meth c H locs k.1 k.2 (zEd base b L xs D cx mi args below s Q) (F0 mid pc jls (st.map (zmv base b))) := by
  obtain ⟨hx, hb, hr, hml, hown, hts, hlk, hin, hKK, hRm, hlaw, hbs⟩ := id Z
  obtain ⟨hH, hL, hg, hs, hk, hS⟩ := hR
  rcases st with _ | ⟨w, st⟩
  · exact False.elim h
  rcases w with v0 | w
  rotate_left
  · exact False.elim h
  rcases st with _ | ⟨w, st⟩
  · exact False.elim h
  rcases w with w | w | v1 | w
  · exact False.elim h
  · exact False.elim h
  rotate_left
  · exact False.elim h
  obtain ⟨ha, h⟩ := h
  obtain ⟨h1, h2, h3⟩ := zarr_at hH (by decide) ha
  have hA := (hKK.2.1 101 (by decide) (by decide)).1
  have e1 : zav base b σ v1 v0.toNat = zmv base b (zl (zJ σ v1 v0)) := by
    have e2 : (zS σ v1).1 = 101 := ha.2.2.1
    have e3 : (v0.toNat : Int) = v0 := Int.toNat_of_nonneg ha.2.2.2.1
    unfold zav
    rw [e2, e3]
    rfl
  show W p l e R s mid args below meth c H locs k.1 k.2 _ (F0 mid pc jls (.int (Int32.ofInt v0) :: va_rf (zra base b v1) :: st.map (zmv base b)))
  rw [zra_ref ha.1]
  refine W.lald (v := zmv base b (zl (zJ σ v1 v0))) hx hb h1 (hA _ _) (fun q => by cases q) (zvp h3 ha _ _) (by rw [zrd h3 ha, e1]) rfl rfl hd ?_
  exact h p e s mid args below meth c R _ _ _ Z ⟨hH, hL, hg, zst_c trivial (zst_t (zst_t hs)), hk, hS⟩
theorem zs_baload  (Z : ZCt base b L xs D cx mi p s mid args meth c R) (hd : decode (zB mi) pc = .ok (.baload, 1)) (ho : zOkI mi pc (.baload) x = true) (hR : zRL base b L xs D cx mi s σ H jls lz st k locs)
    (h : znx (zf mi) 1 (.baload) x pc lz st σ k (fun pc' ls' st' σ' k' => zSnd l base b L xs D cx mi pc' ls' st' σ' k' Q) Q (fun m' a σ' R => zSnd l base b L xs D cx m' 0 a [] σ' (0, 0) R)) : W p l e R s mid args below meth c H locs k.1 k.2 (zEd base b L xs D cx mi args below s Q) (F0 mid pc jls (st.map (zmv base b))) := by
  obtain ⟨hx, hb, hr, hml, hown, hts, hlk, hin, hKK, hRm, hlaw, hbs⟩ := id Z
  obtain ⟨hH, hL, hg, hs, hk, hS⟩ := hR
  rcases st with _ | ⟨w, st⟩
  · exact False.elim h
  rcases w with v0 | w
  rotate_left
  · exact False.elim h
  rcases st with _ | ⟨w, st⟩
  · exact False.elim h
  rcases w with w | w | v1 | w
  · exact False.elim h
  · exact False.elim h
  rotate_left
  · exact False.elim h
  obtain ⟨ha, h⟩ := h
  obtain ⟨h1, h2, h3⟩ := zarr_at hH (by decide) ha
  have hA := (hKK.2.1 102 (by decide) (by decide)).1
  have e1 : zav base b σ v1 v0.toNat = zmv base b (zi (zI σ v1 v0)) := by
    have e2 : (zS σ v1).1 = 102 := ha.2.2.1
    have e3 : (v0.toNat : Int) = v0 := Int.toNat_of_nonneg ha.2.2.2.1
    unfold zav
    rw [e2, e3]
    rfl
  show W p l e R s mid args below meth c H locs k.1 k.2 _ (F0 mid pc jls (.int (Int32.ofInt v0) :: va_rf (zra base b v1) :: st.map (zmv base b)))
  rw [zra_ref ha.1]
  refine W.zald (v := zmv base b (zi (zI σ v1 v0))) hx hb h1 (hA _ _) (fun q => by cases q) (zvp h3 ha _ _) (by rw [zrd h3 ha, e1]) rfl rfl hd ?_
  exact h p e s mid args below meth c R _ _ _ Z ⟨hH, hL, hg, zst_c (hH.2.2.2.1 _ _) (zst_t (zst_t hs)), hk, hS⟩
theorem zs_iaload  (Z : ZCt base b L xs D cx mi p s mid args meth c R) (hd : decode (zB mi) pc = .ok (.iaload, 1)) (ho : zOkI mi pc (.iaload) x = true) (hR : zRL base b L xs D cx mi s σ H jls lz st k locs)
    (h : znx (zf mi) 1 (.iaload) x pc lz st σ k (fun pc' ls' st' σ' k' => zSnd l base b L xs D cx mi pc' ls' st' σ' k' Q) Q (fun m' a σ' R => zSnd l base b L xs D cx m' 0 a [] σ' (0, 0) R)) : W p l e R s mid args below meth c H locs k.1 k.2 (zEd base b L xs D cx mi args below s Q) (F0 mid pc jls (st.map (zmv base b))) := by
  obtain ⟨hx, hb, hr, hml, hown, hts, hlk, hin, hKK, hRm, hlaw, hbs⟩ := id Z
  obtain ⟨hH, hL, hg, hs, hk, hS⟩ := hR
  rcases st with _ | ⟨w, st⟩
  · exact False.elim h
  rcases w with v0 | w
  rotate_left
  · exact False.elim h
  rcases st with _ | ⟨w, st⟩
  · exact False.elim h
  rcases w with w | w | v1 | w
  · exact False.elim h
  · exact False.elim h
  rotate_left
  · exact False.elim h
  obtain ⟨ha, h⟩ := h
  have hor : zarr σ v1 100 v0 ∨ (mi = 0 ∧ v1 = 1 ∧ 0 ≤ v0 ∧ v0 < ((zS σ 1).2 : Int)) := by
    generalize h5 : (zf mi).1 = rk at ha
    by_cases e5 : rk = 5
    · subst e5
      rcases ha with ha | ha
      · exact Or.inl ha
      · exact Or.inr ⟨zf5 h5, ha⟩
    · left
      unfold zldo at ha
      split at ha
      · exact absurd rfl e5
      · exact ha
  clear ha
  rcases hor with ha | ⟨hm, h1, h2, h3⟩
  · obtain ⟨h1, h2, h3⟩ := zarr_at hH (by decide) ha
    have hA := (hKK.2.1 100 (by decide) (by decide)).1
    have e1 : zav base b σ v1 v0.toNat = zmv base b (zi (zI σ v1 v0)) := by
      have e2 : (zS σ v1).1 = 100 := ha.2.2.1
      have e3 : (v0.toNat : Int) = v0 := Int.toNat_of_nonneg ha.2.2.2.1
      unfold zav
      rw [e2, e3]
      rfl
    show W p l e R s mid args below meth c H locs k.1 k.2 _ (F0 mid pc jls (.int (Int32.ofInt v0) :: va_rf (zra base b v1) :: st.map (zmv base b)))
    rw [zra_ref ha.1]
    refine W.iald (v := zmv base b (zi (zI σ v1 v0))) hx hb h1 (hA _ _) (fun q => by cases q) (zvp h3 ha _ _) (by rw [zrd h3 ha, e1]) rfl rfl hd ?_
    exact h p e s mid args below meth c R _ _ _ Z ⟨hH, hL, hg, zst_c (hH.2.2.2.1 _ _) (zst_t (zst_t hs)), hk, hS⟩
  · subst h1
    obtain ⟨q1, q2, q3, q4, q5⟩ := hlaw hm
    have hz : (zS σ 1).2 = L := hH.2.2.2.2.1
    rw [hz] at h3
    have hi : zin v0 := ⟨by omega, by omega⟩
    have hv : Int32.ofInt (zI σ 1 v0) = xs (Int32.ofInt v0).toNatClampNeg := by
      rw [zin_nat hi h2]
      have := hH.2.2.2.2.2 v0.toNat (by omega)
      rw [Int.toNat_of_nonneg h2] at this
      rw [this, Int32.ofInt_toInt]
    refine va_sld (A := fun q => base ≤ q) hx hb q2 q3 (by have := hbs.2; omega) hS (zin_vp hi h2 h3) hd ?_
    rw [← hv]
    exact h p e s mid args below meth c R _ _ _ Z ⟨hH, hL, hg, zst_c (hH.2.2.2.1 _ _) (zst_t (zst_t hs)), hk, hS⟩
theorem zs_aaload  (Z : ZCt base b L xs D cx mi p s mid args meth c R) (hd : decode (zB mi) pc = .ok (.aaload, 1)) (ho : zOkI mi pc (.aaload) x = true) (hR : zRL base b L xs D cx mi s σ H jls lz st k locs)
    (h : znx (zf mi) 1 (.aaload) x pc lz st σ k (fun pc' ls' st' σ' k' => zSnd l base b L xs D cx mi pc' ls' st' σ' k' Q) Q (fun m' a σ' R => zSnd l base b L xs D cx m' 0 a [] σ' (0, 0) R)) : W p l e R s mid args below meth c H locs k.1 k.2 (zEd base b L xs D cx mi args below s Q) (F0 mid pc jls (st.map (zmv base b))) := by
  obtain ⟨hx, hb, hr, hml, hown, hts, hlk, hin, hKK, hRm, hlaw, hbs⟩ := id Z
  obtain ⟨hH, hL, hg, hs, hk, hS⟩ := hR
  rcases st with _ | ⟨w, st⟩
  · exact False.elim h
  rcases w with v0 | w
  rotate_left
  · exact False.elim h
  rcases st with _ | ⟨w, st⟩
  · exact False.elim h
  rcases w with w | w | v1 | w
  · exact False.elim h
  · exact False.elim h
  rotate_left
  · exact False.elim h
  obtain ⟨ha, h⟩ := h
  rcases ha with ha | ha | ha
  ·
    obtain ⟨h1, h2, h3⟩ := zarr_at hH (by decide) ha
    have hA := (hKK.2.1 103 (by decide) (by decide)).1
    have e1 : zav base b σ v1 v0.toNat = zmv base b (zr (zR σ v1 v0)) := by
      have e2 : (zS σ v1).1 = 103 := ha.2.2.1
      have e3 : (v0.toNat : Int) = v0 := Int.toNat_of_nonneg ha.2.2.2.1
      unfold zav
      rw [e2, e3]
      rfl
    show W p l e R s mid args below meth c H locs k.1 k.2 _ (F0 mid pc jls (.int (Int32.ofInt v0) :: va_rf (zra base b v1) :: st.map (zmv base b)))
    rw [zra_ref ha.1]
    refine W.aald (v := zmv base b (zr (zR σ v1 v0))) hx hb h1 (hA _ _) rfl (fun q => by cases q) (zvp h3 ha _ _) (by rw [zrd h3 ha, e1]) rfl rfl hd ?_
    exact h p e s mid args below meth c R _ _ _ Z ⟨hH, hL, hg, zst_c trivial (zst_t (zst_t hs)), hk, hS⟩
  ·
    obtain ⟨h1, h2, h3⟩ := zarr_at hH (by decide) ha
    have hA := (hKK.2.1 104 (by decide) (by decide)).1
    have e1 : zav base b σ v1 v0.toNat = zmv base b (zr (zR σ v1 v0)) := by
      have e2 : (zS σ v1).1 = 104 := ha.2.2.1
      have e3 : (v0.toNat : Int) = v0 := Int.toNat_of_nonneg ha.2.2.2.1
      unfold zav
      rw [e2, e3]
      rfl
    show W p l e R s mid args below meth c H locs k.1 k.2 _ (F0 mid pc jls (.int (Int32.ofInt v0) :: va_rf (zra base b v1) :: st.map (zmv base b)))
    rw [zra_ref ha.1]
    refine W.aald (v := zmv base b (zr (zR σ v1 v0))) hx hb h1 (hA _ _) rfl (fun q => by cases q) (zvp h3 ha _ _) (by rw [zrd h3 ha, e1]) rfl rfl hd ?_
    exact h p e s mid args below meth c R _ _ _ Z ⟨hH, hL, hg, zst_c trivial (zst_t (zst_t hs)), hk, hS⟩
  ·
    obtain ⟨h1, h2, h3⟩ := zarr_at hH (by decide) ha
    have hA := (hKK.2.1 105 (by decide) (by decide)).1
    have e1 : zav base b σ v1 v0.toNat = zmv base b (zr (zR σ v1 v0)) := by
      have e2 : (zS σ v1).1 = 105 := ha.2.2.1
      have e3 : (v0.toNat : Int) = v0 := Int.toNat_of_nonneg ha.2.2.2.1
      unfold zav
      rw [e2, e3]
      rfl
    show W p l e R s mid args below meth c H locs k.1 k.2 _ (F0 mid pc jls (.int (Int32.ofInt v0) :: va_rf (zra base b v1) :: st.map (zmv base b)))
    rw [zra_ref ha.1]
    refine W.aald (v := zmv base b (zr (zR σ v1 v0))) hx hb h1 (hA _ _) rfl (fun q => by cases q) (zvp h3 ha _ _) (by rw [zrd h3 ha, e1]) rfl rfl hd ?_
    exact h p e s mid args below meth c R _ _ _ Z ⟨hH, hL, hg, zst_c trivial (zst_t (zst_t hs)), hk, hS⟩
theorem zs_iastore  (Z : ZCt base b L xs D cx mi p s mid args meth c R) (hd : decode (zB mi) pc = .ok (.iastore, 1)) (ho : zOkI mi pc (.iastore) x = true) (hR : zRL base b L xs D cx mi s σ H jls lz st k locs)
    (h : znx (zf mi) 1 (.iastore) x pc lz st σ k (fun pc' ls' st' σ' k' => zSnd l base b L xs D cx mi pc' ls' st' σ' k' Q) Q (fun m' a σ' R => zSnd l base b L xs D cx m' 0 a [] σ' (0, 0) R)) : W p l e R s mid args below meth c H locs k.1 k.2 (zEd base b L xs D cx mi args below s Q) (F0 mid pc jls (st.map (zmv base b))) := by
  obtain ⟨hx, hb, hr, hml, hown, hts, hlk, hin, hKK, hRm, hlaw, hbs⟩ := id Z
  obtain ⟨hH, hL, hg, hs, hk, hS⟩ := hR
  rcases st with _ | ⟨w, st⟩
  · exact False.elim h
  rcases w with v0 | w
  rotate_left
  · exact False.elim h
  rcases st with _ | ⟨w, st⟩
  · exact False.elim h
  rcases w with v1 | w
  rotate_left
  · exact False.elim h
  rcases st with _ | ⟨w, st⟩
  · exact False.elim h
  rcases w with w | w | v2 | w
  · exact False.elim h
  · exact False.elim h
  rotate_left
  · exact False.elim h
  obtain ⟨ha, h⟩ := h
  obtain ⟨h1, h2, h3⟩ := zarr_at hH (by decide) ha
  have hA := (hKK.2.1 100 (by decide) (by decide)).1
  have e3 : (v1.toNat : Int) = v1 := Int.toNat_of_nonneg ha.2.2.2.1
  have e2 : (zS σ v2).1 = 100 := ha.2.2.1
  show W p l e R s mid args below meth c H locs k.1 k.2 _ (F0 mid pc jls (zmv base b (zi v0) :: .int (Int32.ofInt v1) :: va_rf (zra base b v2) :: st.map (zmv base b)))
  rw [zra_ref ha.1]
  refine W.iast hx hb h1 (hA _ _) (fun q => by cases q) (zvp h3 ha _ _) rfl rfl hd (fun H1 q1 q2 q3 => ?_)
  rw [zin_nat h3 ha.2.2.2.1, arrV_store] at q1
  refine h p e s mid args below meth c R _ _ _ Z ⟨zast_ok (t := 100) hH (by decide) ha q1 q2 q3 rfl (fun _ => rfl) (fun c hc j => wI_oth hc) (fun _ _ _ => rfl) (fun _ _ _ => rfl) (fun j => ?_) ?_, hL, hg, zst_t (zst_t (zst_t hs)), hk, hS.put q2 q3 (Nat.le_add_right _ _)⟩
  · by_cases e4 : j = v1
    · rw [e4, wI_self]; exact hs _ List.mem_cons_self
    · rw [wI_ne e4]; exact hH.2.2.2.1 _ _
  · funext q
    unfold updV
    by_cases e4 : q = v1.toNat
    · rw [if_pos e4, e4]
      unfold zav
      rw [show (zS (wI σ v2 v1 v0) v2).1 = 100 from e2, e3, wI_self]
      rfl
    · rw [if_neg e4]
      unfold zav
      rw [show (zS (wI σ v2 v1 v0) v2).1 = 100 from e2, e2, wI_ne (by omega)]
      rfl
theorem zs_lastore  (Z : ZCt base b L xs D cx mi p s mid args meth c R) (hd : decode (zB mi) pc = .ok (.lastore, 1)) (ho : zOkI mi pc (.lastore) x = true) (hR : zRL base b L xs D cx mi s σ H jls lz st k locs)
    (h : znx (zf mi) 1 (.lastore) x pc lz st σ k (fun pc' ls' st' σ' k' => zSnd l base b L xs D cx mi pc' ls' st' σ' k' Q) Q (fun m' a σ' R => zSnd l base b L xs D cx m' 0 a [] σ' (0, 0) R)) : W p l e R s mid args below meth c H locs k.1 k.2 (zEd base b L xs D cx mi args below s Q) (F0 mid pc jls (st.map (zmv base b))) := by
  obtain ⟨hx, hb, hr, hml, hown, hts, hlk, hin, hKK, hRm, hlaw, hbs⟩ := id Z
  obtain ⟨hH, hL, hg, hs, hk, hS⟩ := hR
  rcases st with _ | ⟨w, st⟩
  · exact False.elim h
  rcases w with w | v0 | w
  · exact False.elim h
  rotate_left
  · exact False.elim h
  rcases st with _ | ⟨w, st⟩
  · exact False.elim h
  rcases w with v1 | w
  rotate_left
  · exact False.elim h
  rcases st with _ | ⟨w, st⟩
  · exact False.elim h
  rcases w with w | w | v2 | w
  · exact False.elim h
  · exact False.elim h
  rotate_left
  · exact False.elim h
  obtain ⟨ha, h⟩ := h
  obtain ⟨h1, h2, h3⟩ := zarr_at hH (by decide) ha
  have hA := (hKK.2.1 101 (by decide) (by decide)).1
  have e3 : (v1.toNat : Int) = v1 := Int.toNat_of_nonneg ha.2.2.2.1
  have e2 : (zS σ v2).1 = 101 := ha.2.2.1
  show W p l e R s mid args below meth c H locs k.1 k.2 _ (F0 mid pc jls (zmv base b (zl v0) :: .int (Int32.ofInt v1) :: va_rf (zra base b v2) :: st.map (zmv base b)))
  rw [zra_ref ha.1]
  refine W.last hx hb h1 (hA _ _) (fun q => by cases q) (zvp h3 ha _ _) rfl rfl hd (fun H1 q1 q2 q3 => ?_)
  rw [zin_nat h3 ha.2.2.2.1, arrV_store] at q1
  refine h p e s mid args below meth c R _ _ _ Z ⟨zast_ok (t := 101) hH (by decide) ha q1 q2 q3 rfl (fun _ => rfl) (fun _ _ _ => rfl) (fun c hc j => wJ_oth hc) (fun _ _ _ => rfl) (fun j => ?_) ?_, hL, hg, zst_t (zst_t (zst_t hs)), hk, hS.put q2 q3 (Nat.le_add_right _ _)⟩
  · exact hH.2.2.2.1 _ _
  · funext q
    unfold updV
    by_cases e4 : q = v1.toNat
    · rw [if_pos e4, e4]
      unfold zav
      rw [show (zS (wJ σ v2 v1 v0) v2).1 = 101 from e2, e3, wJ_self]
      rfl
    · rw [if_neg e4]
      unfold zav
      rw [show (zS (wJ σ v2 v1 v0) v2).1 = 101 from e2, e2, wJ_ne (by omega)]
      rfl
theorem zs_bastore  (Z : ZCt base b L xs D cx mi p s mid args meth c R) (hd : decode (zB mi) pc = .ok (.bastore, 1)) (ho : zOkI mi pc (.bastore) x = true) (hR : zRL base b L xs D cx mi s σ H jls lz st k locs)
    (h : znx (zf mi) 1 (.bastore) x pc lz st σ k (fun pc' ls' st' σ' k' => zSnd l base b L xs D cx mi pc' ls' st' σ' k' Q) Q (fun m' a σ' R => zSnd l base b L xs D cx m' 0 a [] σ' (0, 0) R)) : W p l e R s mid args below meth c H locs k.1 k.2 (zEd base b L xs D cx mi args below s Q) (F0 mid pc jls (st.map (zmv base b))) := by
  obtain ⟨hx, hb, hr, hml, hown, hts, hlk, hin, hKK, hRm, hlaw, hbs⟩ := id Z
  obtain ⟨hH, hL, hg, hs, hk, hS⟩ := hR
  rcases st with _ | ⟨w, st⟩
  · exact False.elim h
  rcases w with v0 | w
  rotate_left
  · exact False.elim h
  rcases st with _ | ⟨w, st⟩
  · exact False.elim h
  rcases w with v1 | w
  rotate_left
  · exact False.elim h
  rcases st with _ | ⟨w, st⟩
  · exact False.elim h
  rcases w with w | w | v2 | w
  · exact False.elim h
  · exact False.elim h
  rotate_left
  · exact False.elim h
  obtain ⟨ha, h01, h⟩ := h
  have hnb : narrow .boolean (.int (Int32.ofInt v0)) = .int (Int32.ofInt v0) := by rcases h01 with rfl | rfl <;> rfl
  obtain ⟨h1, h2, h3⟩ := zarr_at hH (by decide) ha
  have hA := (hKK.2.1 102 (by decide) (by decide)).1
  have e3 : (v1.toNat : Int) = v1 := Int.toNat_of_nonneg ha.2.2.2.1
  have e2 : (zS σ v2).1 = 102 := ha.2.2.1
  show W p l e R s mid args below meth c H locs k.1 k.2 _ (F0 mid pc jls (zmv base b (zi v0) :: .int (Int32.ofInt v1) :: va_rf (zra base b v2) :: st.map (zmv base b)))
  rw [zra_ref ha.1]
  refine W.zast hx hb h1 (hA _ _) (fun q => by cases q) (zvp h3 ha _ _) rfl rfl hd (fun H1 q1 q2 q3 => ?_)
  rw [zin_nat h3 ha.2.2.2.1, arrV_store, hnb] at q1
  refine h p e s mid args below meth c R _ _ _ Z ⟨zast_ok (t := 102) hH (by decide) ha q1 q2 q3 rfl (fun _ => rfl) (fun c hc j => wI_oth hc) (fun _ _ _ => rfl) (fun _ _ _ => rfl) (fun j => ?_) ?_, hL, hg, zst_t (zst_t (zst_t hs)), hk, hS.put q2 q3 (Nat.le_add_right _ _)⟩
  · by_cases e4 : j = v1
    · rw [e4, wI_self]; exact hs _ List.mem_cons_self
    · rw [wI_ne e4]; exact hH.2.2.2.1 _ _
  · funext q
    unfold updV
    by_cases e4 : q = v1.toNat
    · rw [if_pos e4, e4]
      unfold zav
      rw [show (zS (wI σ v2 v1 v0) v2).1 = 102 from e2, e3, wI_self]
      rfl
    · rw [if_neg e4]
      unfold zav
      rw [show (zS (wI σ v2 v1 v0) v2).1 = 102 from e2, e2, wI_ne (by omega)]
      rfl
theorem zs_aastore  (Z : ZCt base b L xs D cx mi p s mid args meth c R) (hd : decode (zB mi) pc = .ok (.aastore, 1)) (ho : zOkI mi pc (.aastore) x = true) (hR : zRL base b L xs D cx mi s σ H jls lz st k locs)
    (h : znx (zf mi) 1 (.aastore) x pc lz st σ k (fun pc' ls' st' σ' k' => zSnd l base b L xs D cx mi pc' ls' st' σ' k' Q) Q (fun m' a σ' R => zSnd l base b L xs D cx m' 0 a [] σ' (0, 0) R)) : W p l e R s mid args below meth c H locs k.1 k.2 (zEd base b L xs D cx mi args below s Q) (F0 mid pc jls (st.map (zmv base b))) := by
  obtain ⟨hx, hb, hr, hml, hown, hts, hlk, hin, hKK, hRm, hlaw, hbs⟩ := id Z
  obtain ⟨hH, hL, hg, hs, hk, hS⟩ := hR
  rcases st with _ | ⟨w, st⟩
  · exact False.elim h
  rcases w with w | w | v0 | w
  · exact False.elim h
  · exact False.elim h
  rotate_left
  · exact False.elim h
  rcases st with _ | ⟨w, st⟩
  · exact False.elim h
  rcases w with v1 | w
  rotate_left
  · exact False.elim h
  rcases st with _ | ⟨w, st⟩
  · exact False.elim h
  rcases w with w | w | v2 | w
  · exact False.elim h
  · exact False.elim h
  rotate_left
  · exact False.elim h
  obtain ⟨hor, h⟩ := h
  rcases hor with ⟨ha, hy⟩ | ⟨ha, hy⟩
  ·
    obtain ⟨h1, h2, h3⟩ := zarr_at hH (by decide) ha
    obtain ⟨hA, kA, comp, k1, k2, k3, -⟩ := hKK.2.1 103 (by decide) (by decide)
    have e3 : (v1.toNat : Int) = v1 := Int.toNat_of_nonneg ha.2.2.2.1
    have e2 : (zS σ v2).1 = 103 := ha.2.2.1
    have hO := zobj_at hH (show 8 < 12 by decide) hy
    obtain ⟨cellV, g1, g2, g3, -⟩ := hO
    have hcls := (hKK.1.1 8 _ (zcl_q (by decide))).2
    have hcomp : comp = D.1 8 := Option.some.inj (k3.symm.trans hcls.1)
    subst hcomp
    obtain ⟨kC, hkC, -⟩ := hcls.2
    show W p l e R s mid args below meth c H locs k.1 k.2 _ (F0 mid pc jls (va_rf (zra base b v0) :: .int (Int32.ofInt v1) :: va_rf (zra base b v2) :: st.map (zmv base b)))
    rw [zra_ref ha.1, zra_ref hy.1]
    have hbd := zvp h3 ha (cx 103) (zav base b σ v2)
    refine W.aast hx hb h1 (fun q h => by cases h) (fun h => by cases h) k1 k2 rfl hkC ⟨fun q => hbd (Or.inl q), Nat.not_le.mp fun q => hbd (Or.inr q)⟩ g1 (fun q h => by rw [g3] at h; cases h) (by rw [g2]; exact hkC) (by rw [g2]; exact va_assign hcls) rfl rfl hd (fun H1 q1 q2 q3 => ?_)
    rw [zin_nat h3 ha.2.2.2.1, arrV_store] at q1
    refine h p e s mid args below meth c R _ _ _ Z ⟨zast_ok (t := 103) hH (by decide) ha q1 q2 q3 rfl (fun _ => rfl) (fun _ _ _ => rfl) (fun _ _ _ => rfl) (fun c hc j => wR_oth hc) (fun j => hH.2.2.2.1 _ _) ?_, hL, hg, zst_t (zst_t (zst_t hs)), hk, hS.put q2 q3 (Nat.le_add_right _ _)⟩
    funext q
    unfold updV
    by_cases e4 : q = v1.toNat
    · rw [if_pos e4, e4]
      unfold zav
      rw [show (zS (wR σ v2 v1 v0) v2).1 = 103 from e2, e3, wR_self]
      rw [← zra_ref (base := base) (b := b) hy.1]
      rfl
    · rw [if_neg e4]
      unfold zav
      rw [show (zS (wR σ v2 v1 v0) v2).1 = 103 from e2, e2, wR_ne (by omega)]
      rfl
  ·
    obtain ⟨h1, h2, h3⟩ := zarr_at hH (by decide) ha
    obtain ⟨hA, kA, comp, k1, k2, k3, -⟩ := hKK.2.1 104 (by decide) (by decide)
    have e3 : (v1.toNat : Int) = v1 := Int.toNat_of_nonneg ha.2.2.2.1
    have e2 : (zS σ v2).1 = 104 := ha.2.2.1
    have hO := zobj_at hH (show 4 < 12 by decide) hy
    obtain ⟨cellV, g1, g2, g3, -⟩ := hO
    have hcls := (hKK.1.1 4 _ (zcl_q (by decide))).2
    have hcomp : comp = D.1 4 := Option.some.inj (k3.symm.trans hcls.1)
    subst hcomp
    obtain ⟨kC, hkC, -⟩ := hcls.2
    show W p l e R s mid args below meth c H locs k.1 k.2 _ (F0 mid pc jls (va_rf (zra base b v0) :: .int (Int32.ofInt v1) :: va_rf (zra base b v2) :: st.map (zmv base b)))
    rw [zra_ref ha.1, zra_ref hy.1]
    have hbd := zvp h3 ha (cx 104) (zav base b σ v2)
    refine W.aast hx hb h1 (fun q h => by cases h) (fun h => by cases h) k1 k2 rfl hkC ⟨fun q => hbd (Or.inl q), Nat.not_le.mp fun q => hbd (Or.inr q)⟩ g1 (fun q h => by rw [g3] at h; cases h) (by rw [g2]; exact hkC) (by rw [g2]; exact va_assign hcls) rfl rfl hd (fun H1 q1 q2 q3 => ?_)
    rw [zin_nat h3 ha.2.2.2.1, arrV_store] at q1
    refine h p e s mid args below meth c R _ _ _ Z ⟨zast_ok (t := 104) hH (by decide) ha q1 q2 q3 rfl (fun _ => rfl) (fun _ _ _ => rfl) (fun _ _ _ => rfl) (fun c hc j => wR_oth hc) (fun j => hH.2.2.2.1 _ _) ?_, hL, hg, zst_t (zst_t (zst_t hs)), hk, hS.put q2 q3 (Nat.le_add_right _ _)⟩
    funext q
    unfold updV
    by_cases e4 : q = v1.toNat
    · rw [if_pos e4, e4]
      unfold zav
      rw [show (zS (wR σ v2 v1 v0) v2).1 = 104 from e2, e3, wR_self]
      rw [← zra_ref (base := base) (b := b) hy.1]
      rfl
    · rw [if_neg e4]
      unfold zav
      rw [show (zS (wR σ v2 v1 v0) v2).1 = 104 from e2, e2, wR_ne (by omega)]
      rfl
theorem zs_arraylength  (Z : ZCt base b L xs D cx mi p s mid args meth c R) (hd : decode (zB mi) pc = .ok (.arraylength, 1)) (ho : zOkI mi pc (.arraylength) x = true) (hR : zRL base b L xs D cx mi s σ H jls lz st k locs)
    (h : znx (zf mi) 1 (.arraylength) x pc lz st σ k (fun pc' ls' st' σ' k' => zSnd l base b L xs D cx mi pc' ls' st' σ' k' Q) Q (fun m' a σ' R => zSnd l base b L xs D cx m' 0 a [] σ' (0, 0) R)) : W p l e R s mid args below meth c H locs k.1 k.2 (zEd base b L xs D cx mi args below s Q) (F0 mid pc jls (st.map (zmv base b))) := by
  obtain ⟨hx, hb, hr, hml, hown, hts, hlk, hin, hKK, hRm, hlaw, hbs⟩ := id Z
  obtain ⟨hH, hL, hg, hs, hk, hS⟩ := hR
  rcases st with _ | ⟨w, st⟩
  · exact False.elim h
  rcases w with w | w | v0 | w
  · exact False.elim h
  · exact False.elim h
  rotate_left
  · exact False.elim h
  obtain ⟨ha, h⟩ := h
  have hor : (2 ≤ v0 ∧ v0 < zN σ ∧ 100 ≤ (zS σ v0).1 ∧ (zS σ v0).1 ≤ 105) ∨ (mi = 0 ∧ v0 = 1) := by
    generalize h5 : (zf mi).1 = rk at ha
    by_cases e5 : rk = 5
    · subst e5
      rcases ha with ha | ha
      · exact Or.inl ha
      · exact Or.inr ⟨zf5 h5, ha⟩
    · left
      unfold zlno at ha
      split at ha
      · exact absurd rfl e5
      · exact ha
  clear ha
  rcases hor with ⟨h1, h2, h3, h4⟩ | ⟨hm, h1⟩
  · have hc := zHp_at hH h1 h2
    unfold zcl at hc
    rcases hc with ⟨q, -⟩ | ⟨-, q1, q2⟩
    · omega
    · have hA := (hKK.2.1 _ h3 h4).1
      show W p l e R s mid args below meth c H locs k.1 k.2 _ (F0 mid pc jls (va_rf (zra base b v0) :: st.map (zmv base b)))
      rw [zra_ref h1]
      refine W.alen (n := Int32.ofInt ((zS σ v0).2 : Int)) hx hb q1 (hA _ _) (by rw [arrV_size]; rfl) rfl rfl hd ?_
      exact h p e s mid args below meth c R _ _ _ Z ⟨hH, hL, hg, zst_c ⟨by omega, by omega⟩ (zst_t hs), hk, hS⟩
  · subst h1
    obtain ⟨q1, q2, q3, q4, q5⟩ := hlaw hm
    have hz : (zS σ 1).2 = L := hH.2.2.2.2.1
    refine va_slen (A := fun q => base ≤ q) hx hb q2 q3 (by have := hbs.2; omega) hS hd ?_
    rw [hz] at h
    exact h p e s mid args below meth c R _ _ _ Z ⟨hH, hL, hg, zst_c ⟨by omega, by omega⟩ (zst_t hs), hk, hS⟩
end ZS1
