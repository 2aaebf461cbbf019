/-! fields and arrays -/
theorem zcls_in {ci : Nat} (h : ci < 12) : ∀ w ∈ u_ws (zqc ci).1 (zqc ci).2.1 (zqc ci).2.2, w ∈ zW := by
  intro w hw
  have h1 := List.all_eq_true.mp zcls_ok ci (List.mem_range.mpr h)
  obtain ⟨j, hj, rfl⟩ := List.mem_map.mp hw
  exact zw_in (List.all_eq_true.mp h1 j hj)
theorem zcls_ty {ci : Nat} (h : ci < 12) : ∀ j, j < (zqc ci).2.2 → parseFieldDescriptor ((zqc ci).2.1 j).2.2.1 = some (zTy ci j) := by
  intro j hj
  have h1 := List.all_eq_true.mp zty_ok ci (List.mem_range.mpr h)
  exact of_decide_eq_true (List.all_eq_true.mp h1 j (List.mem_range.mpr hj))
theorem zcls_nm {ci : Nat} (h : ci < 12) : ∀ i, i < (zqc ci).2.2 → ∀ j, j < (zqc ci).2.2 → i ≠ j → ((zqc ci).2.1 i).2.1 ≠ ((zqc ci).2.1 j).2.1 := by
  intro i hi j hj hne
  have h1 := List.all_eq_true.mp znm_ok ci (List.mem_range.mpr h)
  exact of_decide_eq_true (List.all_eq_true.mp (List.all_eq_true.mp h1 i (List.mem_range.mpr hi)) j (List.mem_range.mpr hj)) hne
section ZMEM
variable {base b L : Nat} {xs : Nat → Int32} {D : va_G} {cx : Nat → ClassId} {σ σ' : ZM} {H H1 : Heap} {a : Nat}
theorem zHp_at (h : zHp base b L xs D cx σ H) (h2 : 2 ≤ a) (hn : a < zN σ) : zcl base b D cx σ a (base + (a - 2)) H := by
  have := h.2.2.1 (a - 2) (by omega)
  rw [show a - 2 + 2 = a by omega] at this
  exact this
theorem zra_ref (h2 : 2 ≤ a) : va_rf (zra base b a) = .ref (base + (a - 2)) := by
  obtain ⟨q, rfl⟩ : ∃ q, a = q + 2 := ⟨a - 2, by omega⟩
  rfl
/-- one cell changes -/
theorem zHp_put (h : zHp base b L xs D cx σ H) (h2 : 2 ≤ a) (hn : a < zN σ) (hz : H1.size = H.size) (ho : ∀ q, q ≠ base + (a - 2) → H1[q]? = H[q]?) (hN : zN σ' = zN σ) (hS : ∀ c, zS σ' c = zS σ c) (hI : ∀ c, c ≠ a → ∀ j, zI σ' c j = zI σ c j) (hJ : ∀ c, c ≠ a → ∀ j, zJ σ' c j = zJ σ c j) (hR : ∀ c, c ≠ a → ∀ j, zR σ' c j = zR σ c j) (hg : ∀ j, zin (zI σ' a j)) (hc : zcl base b D cx σ' a (base + (a - 2)) H1) : zHp base b L xs D cx σ' H1 := by
  obtain ⟨g1, g2, g3, g4, g5, g6⟩ := h
  refine ⟨by rw [hz, hN]; exact g1, by rw [hN]; exact g2, fun c hcn => ?_, fun c j => ?_, by rw [hS]; exact g5, fun j hj => by rw [hI 1 (by omega)]; exact g6 j hj⟩
  · by_cases e : c + 2 = a
    · subst e
      exact hc
    · exact zcl_kept (g3 c (by rw [← hN]; exact hcn)) (ho _ (by omega)) (hS _) (hI _ e) (hJ _ e) (hR _ e)
  · by_cases e : c = a
    · subst e
      exact hg j
    · rw [hI c e]
      exact g4 c j
theorem zobj_at (h : zHp base b L xs D cx σ H) {ci : Nat} (hci : ci < 12) (ho : zobj σ a ci) : t_OB (base + (a - 2)) (D.1 ci) (zqc ci).2.2 (D.2 ci) H (zfv base b σ a ci) := by
  obtain ⟨h2, hn, hc⟩ := ho
  have h1 := zHp_at h h2 hn
  unfold zcl at h1
  rw [hc] at h1
  rcases h1 with ⟨_, h1⟩ | ⟨h1, _⟩
  · exact h1
  · omega
theorem zarr_at (h : zHp base b L xs D cx σ H) {t : Nat} {i : Int} (ht : 100 ≤ t) (ho : zarr σ a t i) : H[base + (a - 2)]? = some (arrV (cx t) (zS σ a).2 (zav base b σ a)) ∧ (zS σ a).2 ≤ 1000000 ∧ zin i := by
  obtain ⟨h2, hn, hc, hi, hl⟩ := ho
  have h1 := zHp_at h h2 hn
  unfold zcl at h1
  rw [hc] at h1
  rcases h1 with ⟨h1, _⟩ | ⟨_, h1, h3⟩
  · omega
  · exact ⟨h1, h3, by omega, by omega⟩
theorem wI_self {i y : Int} : zI (wI σ a i y) a i = y := by simp [zI, wI]
theorem wI_ne {i y j : Int} (h : j ≠ i) : zI (wI σ a i y) a j = zI σ a j := by simp [zI, wI, h]
theorem wI_oth {i y j : Int} {c : Nat} (h : c ≠ a) : zI (wI σ a i y) c j = zI σ c j := by simp [zI, wI, h]
theorem wJ_self {i : Int} {y : Int64} : zJ (wJ σ a i y) a i = y := by simp [zJ, wJ]
theorem wJ_ne {i j : Int} {y : Int64} (h : j ≠ i) : zJ (wJ σ a i y) a j = zJ σ a j := by simp [zJ, wJ, h]
theorem wJ_oth {i j : Int} {y : Int64} {c : Nat} (h : c ≠ a) : zJ (wJ σ a i y) c j = zJ σ c j := by simp [zJ, wJ, h]
theorem wR_self {i : Int} {y : Nat} : zR (wR σ a i y) a i = y := by simp [zR, wR]
theorem wR_ne {i j : Int} {y : Nat} (h : j ≠ i) : zR (wR σ a i y) a j = zR σ a j := by simp [zR, wR, h]
theorem wR_oth {i j : Int} {y : Nat} {c : Nat} (h : c ≠ a) : zR (wR σ a i y) c j = zR σ c j := by simp [zR, wR, h]
end ZMEM
theorem zfL_len : zfL.length = 247 := by decide +kernel
theorem zf5 {mi : Nat} (h : (zf mi).1 = 5) : mi = 0 := by
  by_cases hm : mi < 247
  · have h1 := List.all_eq_true.mp zrt_ok mi (List.mem_range.mpr hm)
    simp only [h] at h1
    exact of_decide_eq_true h1
  · have : zf mi = (9, 0, 0) := by
      unfold zf
      rw [List.getD_eq_getElem?_getD, List.getElem?_eq_none (by rw [zfL_len]; omega)]
      rfl
    rw [this] at h
    cases h

section ZS1
variable {l : Launch} {base b L : Nat} {xs : Nat → Int32} {D : va_G} {cx : Nat → ClassId} {mi pc : Nat} {x : List Nat} {lz st : List PV} {σ : ZM} {k : Nat × Nat} {Q : ZQ} {p : Program} {e : Env} {s : State} {mid : MethodId} {args : Array Value} {below : List Frame} {meth : Method} {c : Code} {R : Room} {jls : Array Slot} {H : Heap} {locs : List Loc}

theorem zs_getfield {i : Nat} (Z : ZCt base b L xs D cx mi p s mid args meth c R) (hd : decode (zB mi) pc = .ok (.getfield i, 3)) (ho : zOkI mi pc (.getfield i) x = true) (hR : zRL base b L xs D cx mi s σ H jls lz st k locs)
    (h : znx (zf mi) 3 (.getfield i) x pc lz st σ k (fun pc' ls' st' σ' k' => zSnd l base b L xs D cx mi pc' ls' st' σ' k' Q) Q (fun m' a σ' R => zSnd l base b L xs D cx m' 0 a [] σ' (0, 0) R)) : W p l e R s mid args below meth c H locs k.1 k.2 (zEd base b L xs D cx mi args below s Q) (F0 mid pc jls (st.map (zmv base b))) := by
  obtain ⟨hx, hb, hr, hml, hown, hts, hlk, hin, hKK, hRm, hlaw, hbs⟩ := id Z
  obtain ⟨hH, hL, hg, hs, hk, hS⟩ := hR
  have ho : zOkF mi i x = true := ho
  unfold zOkF at ho
  simp only [Bool.and_eq_true, decide_eq_true_eq] at ho
  obtain ⟨⟨⟨⟨hci, hsl⟩, hkd⟩, hdc⟩, hw⟩ := ho
  rcases st with _ | ⟨w, st⟩
  · exact False.elim h
  rcases w with w | w | v0 | w
  · exact False.elim h
  · exact False.elim h
  rotate_left
  · exact False.elim h
  obtain ⟨hob, h⟩ := h
  have hO := zobj_at hH hci hob
  have hKn := hKK.1.1 _ _ (zcl_q hci)
  have key : W p l e R s mid args below meth c H locs k.1 k.2 (zEd base b L xs D cx mi args below s Q) (F0 mid (pc + 3) jls (zfv base b σ v0 (zat x 0) (zat x 1) :: st.map (zmv base b))) := by
    unfold zfv
    rw [hkd]
    generalize zat x 2 = kd at h
    rcases kd with _ | _ | _ | kd
    · exact h p e s mid args below meth c R _ _ _ Z ⟨hH, hL, hg, zst_c (hH.2.2.2.1 _ _) (zst_t hs), hk, hS⟩
    · exact h p e s mid args below meth c R _ _ _ Z ⟨hH, hL, hg, zst_c trivial (zst_t hs), hk, hS⟩
    · exact h p e s mid args below meth c R _ _ _ Z ⟨hH, hL, hg, zst_c trivial (zst_t hs), hk, hS⟩
    · exact h p e s mid args below meth c R _ _ _ Z ⟨hH, hL, hg, zst_c (hH.2.2.2.1 _ _) (zst_t hs), hk, hS⟩
  show W p l e R s mid args below meth c H locs k.1 k.2 _ (F0 mid pc jls (va_rf (zra base b v0) :: st.map (zmv base b)))
  rw [zra_ref hob.1]
  generalize zat x 3 = md at hw
  rcases md with _ | md
  · exact zq_get hx hb hts (zcls_in hci) hown hKn hO (zat x 1) hsl (by rw [hdc]; exact hts _ (zw_in hw)) hd key
  · exact zq_getN hx hb hts (zcls_in hci) hown hKn hO (zat x 1) hsl (by rw [hdc]; exact va_Nw.use rfl (hKK.2.2.1 _ (zn_in hw))) hd key
def zfitP (kd : Nat) (v : PV) : Prop := match kd, v with
  | 0, .inl _ => True
  | 1, .inr (.inl _) => True
  | 2, .inr (.inr (.inl _)) => True
  | 3, .inl y => y = 0 ∨ y = 1
  | _, _ => False
theorem zfit {base b : Nat} {ty : FieldType} {v : PV} (h : zfitP (zKd ty) v) : narrow ty (zmv base b v) = zmv base b v ∧ fits ty (zmv base b v) = true := by
  cases ty <;> rcases v with y | y | y | y <;> simp only [zKd, zfitP] at h <;> first
    | exact False.elim h
    | exact ⟨rfl, rfl⟩
    | (rcases h with rfl | rfl <;> exact ⟨rfl, rfl⟩)
    | (rcases y with _ | _ | y <;> exact ⟨rfl, rfl⟩)
theorem zput_ok {base b L : Nat} {xs : Nat → Int32} {D : va_G} {cx : Nat → ClassId} {σ σ' : ZM} {H H1 : Heap} {a ci j : Nat} {v : Value} (hH : zHp base b L xs D cx σ H) (hci : ci < 12) (hob : zobj σ a ci) (hO : t_OB (base + (a - 2)) (D.1 ci) (zqc ci).2.2 (D.2 ci) H1 (updV (zfv base b σ a ci) j v)) (hz : H1.size = H.size) (ho : ∀ q, q ≠ base + (a - 2) → H1[q]? = H[q]?) (hN : zN σ' = zN σ) (hS : ∀ c, zS σ' c = zS σ c) (hI : ∀ c, c ≠ a → ∀ j, zI σ' c j = zI σ c j) (hJ : ∀ c, c ≠ a → ∀ j, zJ σ' c j = zJ σ c j) (hR : ∀ c, c ≠ a → ∀ j, zR σ' c j = zR σ c j) (hg : ∀ j, zin (zI σ' a j)) (hv : ∀ q, updV (zfv base b σ a ci) j v q = zfv base b σ' a ci q) : zHp base b L xs D cx σ' H1 := by
  refine zHp_put hH hob.1 hob.2.1 hz ho hN hS hI hJ hR hg (Or.inl ?_)
  rw [hS, hob.2.2]
  exact ⟨hci, hO.to (fun q _ => hv q)⟩
theorem zs_putfield {i : Nat} (Z : ZCt base b L xs D cx mi p s mid args meth c R) (hd : decode (zB mi) pc = .ok (.putfield i, 3)) (ho : zOkI mi pc (.putfield i) x = true) (hR : zRL base b L xs D cx mi s σ H jls lz st k locs)
    (h : znx (zf mi) 3 (.putfield i) x pc lz st σ k (fun pc' ls' st' σ' k' => zSnd l base b L xs D cx mi pc' ls' st' σ' k' Q) Q (fun m' a σ' R => zSnd l base b L xs D cx m' 0 a [] σ' (0, 0) R)) : W p l e R s mid args below meth c H locs k.1 k.2 (zEd base b L xs D cx mi args below s Q) (F0 mid pc jls (st.map (zmv base b))) := by
  obtain ⟨hx, hb, hr, hml, hown, hts, hlk, hin, hKK, hRm, hlaw, hbs⟩ := id Z
  obtain ⟨hH, hL, hg, hs, hk, hS⟩ := hR
  have ho : (zOkF mi i x && zOkP mi x) = true := ho
  rw [Bool.and_eq_true] at ho
  obtain ⟨ho, hop⟩ := ho
  have ho : zOkF mi i x = true := ho
  unfold zOkF at ho
  simp only [Bool.and_eq_true, decide_eq_true_eq] at ho
  obtain ⟨⟨⟨⟨hci, hsl⟩, hkd⟩, hdc⟩, hw⟩ := ho
  rcases st with _ | ⟨w, st⟩
  · exact False.elim h
  obtain ⟨v0, hv0⟩ : ∃ z, z = w := ⟨_, rfl⟩
  subst hv0
  rcases st with _ | ⟨w, st⟩
  · exact False.elim h
  rcases w with w | w | v1 | w
  · exact False.elim h
  · exact False.elim h
  rotate_left
  · exact False.elim h
  obtain ⟨hob, h⟩ := h
  have hO := zobj_at hH hci hob
  have hKn := hKK.1.1 _ _ (zcl_q hci)
  have hgv : zgd v0 := hs _ List.mem_cons_self
  -- what is stored fits, and the memory behind it
  have hall : ∃ σ', (narrow (zTy (zat x 0) (zat x 1)) (zmv base b v0) = zmv base b v0 ∧ fits (zTy (zat x 0) (zat x 1)) (zmv base b v0) = true) ∧ zSnd l base b L xs D cx mi (pc + 3) lz st σ' k Q ∧ ∀ H1 : Heap, t_OB (base + (v1 - 2)) (D.1 (zat x 0)) (zqc (zat x 0)).2.2 (D.2 (zat x 0)) H1 (updV (zfv base b σ v1 (zat x 0)) (zat x 1) (zmv base b v0)) → H1.size = H.size → (∀ q, q ≠ base + (v1 - 2) → H1[q]? = H[q]?) → zHp base b L xs D cx σ' H1 := by
    have hfit : zfitP (zKd (zTy (zat x 0) (zat x 1))) v0 → narrow (zTy (zat x 0) (zat x 1)) (zmv base b v0) = zmv base b v0 ∧ fits (zTy (zat x 0) (zat x 1)) (zmv base b v0) = true := zfit
    rw [hkd] at hfit
    generalize hk2 : zat x 2 = kd at h hfit
    rw [hk2] at hkd
    have int : ∀ y : Int, v0 = zi y → (kd = 0 ∨ kd = 3) → ∀ H1 : Heap, t_OB (base + (v1 - 2)) (D.1 (zat x 0)) (zqc (zat x 0)).2.2 (D.2 (zat x 0)) H1 (updV (zfv base b σ v1 (zat x 0)) (zat x 1) (zmv base b v0)) → H1.size = H.size → (∀ q, q ≠ base + (v1 - 2) → H1[q]? = H[q]?) → zHp base b L xs D cx (wI σ v1 (zat x 1) y) H1 := by
      intro y hy hk3 H1 hO1 hz1 ho1
      subst hy
      refine zput_ok (j := zat x 1) hH hci hob hO1 hz1 ho1 rfl (fun _ => rfl) (fun c hc j => wI_oth hc) (fun _ _ _ => rfl) (fun _ _ _ => rfl) (fun j => ?_) (fun q => ?_)
      · by_cases e1 : j = (zat x 1 : Int)
        · rw [e1, wI_self]; exact hgv
        · rw [wI_ne e1]; exact hH.2.2.2.1 _ _
      · unfold updV
        by_cases e1 : q = zat x 1
        · rw [if_pos e1, e1]
          unfold zfv
          rw [hkd, wI_self]
          rcases hk3 with rfl | rfl <;> rfl
        · rw [if_neg e1]
          unfold zfv
          rw [wI_ne (by omega)]
          rfl
    rcases kd with _ | _ | _ | _ | kd <;> rcases v0 with y | y | y | y <;> first
      | exact False.elim h
      | exact ⟨_, hfit trivial, h, int y rfl (Or.inl rfl)⟩
      | exact ⟨_, hfit h.1, h.2, int y rfl (Or.inr rfl)⟩
      | skip
    · refine ⟨_, hfit trivial, h, fun H1 hO1 hz1 ho1 => zput_ok (j := zat x 1) hH hci hob hO1 hz1 ho1 rfl (fun _ => rfl) (fun _ _ _ => rfl) (fun c hc j => wJ_oth hc) (fun _ _ _ => rfl) (fun j => hH.2.2.2.1 _ _) (fun q => ?_)⟩
      unfold updV
      by_cases e1 : q = zat x 1
      · rw [if_pos e1, e1]
        unfold zfv
        rw [hkd, wJ_self]
        rfl
      · rw [if_neg e1]
        unfold zfv
        rw [wJ_ne (by omega)]
        rfl
    · refine ⟨_, hfit trivial, h, fun H1 hO1 hz1 ho1 => zput_ok (j := zat x 1) hH hci hob hO1 hz1 ho1 rfl (fun _ => rfl) (fun _ _ _ => rfl) (fun _ _ _ => rfl) (fun c hc j => wR_oth hc) (fun j => hH.2.2.2.1 _ _) (fun q => ?_)⟩
      unfold updV
      by_cases e1 : q = zat x 1
      · rw [if_pos e1, e1]
        unfold zfv
        rw [hkd, wR_self]
        rfl
      · rw [if_neg e1]
        unfold zfv
        rw [wR_ne (by omega)]
        rfl
  obtain ⟨σ', ⟨hn1, hf1⟩, h, hm⟩ := hall
  have key : ∀ (H1 : Heap) (n : Nat), t_OB (base + (v1 - 2)) (D.1 (zat x 0)) (zqc (zat x 0)).2.2 (D.2 (zat x 0)) H1 (updV (zfv base b σ v1 (zat x 0)) (zat x 1) (zmv base b v0)) → H1.size = H.size → (∀ q, q ≠ base + (v1 - 2) → H1[q]? = H[q]?) → W p l e R s mid args below meth c H1 (locs ++ [⟨base + (v1 - 2), n⟩]) k.1 k.2 (zEd base b L xs D cx mi args below s Q) (F0 mid (pc + 3) jls (st.map (zmv base b))) := fun H1 n hO1 hz1 ho1 =>
    h p e s mid args below meth c R _ _ _ Z ⟨hm H1 hO1 hz1 ho1, hL, hg, zst_t (zst_t hs), hk, hS.put hz1 ho1 (Nat.le_add_right _ _)⟩
  show W p l e R s mid args below meth c H locs k.1 k.2 _ (F0 mid pc jls (zmv base b v0 :: va_rf (zra base b v1) :: st.map (zmv base b)))
  rw [zra_ref hob.1]
  unfold zOkP at hop
  cases hfin : ((zqc (zat x 0)).2.1 (zat x 1)).2.2.2 with
  | false =>
    generalize zat x 3 = md at hw
    rcases md with _ | md
    · exact zq_put hx hb hts (zcls_in hci) (zTy (zat x 0)) (zcls_ty hci) (zcls_nm hci) hown hKn hO (zat x 1) hsl (by rw [hdc]; exact hts _ (zw_in hw)) hfin hn1 hf1 hd key
    · exact zq_putN hx hb hts (zcls_in hci) (zTy (zat x 0)) (zcls_ty hci) (zcls_nm hci) hown hKn hO (zat x 1) hsl (by rw [hdc]; exact va_Nw.use rfl (hKK.2.2.1 _ (zn_in hw))) hfin hn1 hf1 hd key
  | true =>
    rw [hfin] at hop
    simp only [Bool.and_eq_true, decide_eq_true_eq] at hop
    obtain ⟨⟨hini, hmd⟩, how⟩ := hop
    rw [hmd] at hw
    exact zq_putF hx hb hts (zcls_in hci) (zTy (zat x 0)) (zcls_ty hci) (zcls_nm hci) hown hKn hO (zat x 1) hsl (by rw [hdc]; exact hts _ (zw_in hw)) hfin (hin hini) (by rw [hdc, how]) hn1 hf1 hd key
end ZS1
