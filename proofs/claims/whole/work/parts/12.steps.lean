theorem zswT_at {F : Nat → Prop} {v : Int} : ∀ (ts : List Nat) (lo : Int) (j : Nat) (t : Nat), zswT F v lo ts → ts[j]? = some t → v = lo + j → F t
  | [], _, _, _, _, hj, _ => by simp at hj
  | _ :: _, lo, 0, t, h, hj, hv => by
    simp at hj
    subst hj
    exact h.1 (by omega)
  | _ :: ts, lo, j + 1, t, h, hj, hv => zswT_at ts (lo + 1) j t h.2 (by simpa using hj) (by omega)
/-! each instruction, second half -/
section ZS1
variable {l : Launch} {base b L : Nat} {xs : Nat → Int32} {D : va_G} {cx : Nat → ClassId} {mi pc : Nat} {x : List Nat} {lz st : List PV} {σ : ZM} {k : Nat × Nat} {Q : ZQ} {p : Program} {e : Env} {s : State} {mid : MethodId} {args : Array Value} {below : List Frame} {meth : Method} {c : Code} {R : Room} {jls : Array Slot} {H : Heap} {locs : List Loc}


theorem zs_lcmp  (Z : ZCt base b L xs D cx mi p s mid args meth c R) (hd : decode (zB mi) pc = .ok (.lcmp, 1)) (ho : zOkI mi pc (.lcmp) x = true) (hR : zRL base b L xs D cx mi s σ H jls lz st k locs)
    (h : znx (zf mi) 1 (.lcmp) x pc lz st σ k (fun pc' ls' st' σ' k' => zSnd l base b L xs D cx mi pc' ls' st' σ' k' Q) Q (fun m' a σ' R => zSnd l base b L xs D cx m' 0 a [] σ' (0, 0) R)) : W p l e R s mid args below meth c H locs k.1 k.2 (zEd base b L xs D cx mi args below s Q) (F0 mid pc jls (st.map (zmv base b))) := by
  obtain ⟨hx, hb, hr, hml, hown, hts, hlk, hin, hKK, hRm, hlaw, hbs⟩ := id Z
  obtain ⟨hH, hL, hg, hs, hk, hS⟩ := hR
  rcases st with _ | ⟨w, st⟩
  · exact False.elim h
  rcases w with w | v0 | w
  · exact False.elim h
  rotate_left
  · exact False.elim h
  rcases st with _ | ⟨w, st⟩
  · exact False.elim h
  rcases w with w | v1 | w
  · exact False.elim h
  rotate_left
  · exact False.elim h
  have hz : lg_cmp v1 v0 = Int32.ofInt (zlcmp v1 v0) := by
    unfold lg_cmp zlcmp
    by_cases h1 : v1 < v0
    · have h2 : ¬ v0 < v1 := fun q => by rw [Int64.lt_iff_toInt_lt] at h1 q; omega
      have h3 : ¬ v1 = v0 := fun q => by rw [q, Int64.lt_iff_toInt_lt] at h1; omega
      rw [if_neg h2, if_neg h3, if_pos h1]
      rfl
    · by_cases h3 : v1 = v0
      · have h2 : ¬ v0 < v1 := by rw [← h3] at h1; rw [← h3]; exact h1
        rw [if_neg h2, if_pos h3, if_neg h1, if_pos h3]
        rfl
      · have h2 : v0 < v1 := by
          rw [Int64.lt_iff_toInt_lt] at h1 ⊢
          rw [← Int64.toInt_inj] at h3
          omega
        rw [if_pos h2, if_neg h1, if_neg h3]
        rfl
  have hr : zin (zlcmp v1 v0) := by
    unfold zlcmp zin
    split
    · omega
    · split <;> omega
  refine W.lcmp hx hb hd ?_
  rw [hz]
  exact h p e s mid args below meth c R _ _ _ Z ⟨hH, hL, hg, zst_c hr (zst_t (zst_t (hs))), hk, hS⟩
theorem zs_goto {off : Int} (Z : ZCt base b L xs D cx mi p s mid args meth c R) (hd : decode (zB mi) pc = .ok (.goto off, 3)) (ho : zOkI mi pc (.goto off) x = true) (hR : zRL base b L xs D cx mi s σ H jls lz st k locs)
    (h : znx (zf mi) 3 (.goto off) x pc lz st σ k (fun pc' ls' st' σ' k' => zSnd l base b L xs D cx mi pc' ls' st' σ' k' Q) Q (fun m' a σ' R => zSnd l base b L xs D cx m' 0 a [] σ' (0, 0) R)) : W p l e R s mid args below meth c H locs k.1 k.2 (zEd base b L xs D cx mi args below s Q) (F0 mid pc jls (st.map (zmv base b))) := by
  obtain ⟨hx, hb, hr, hml, hown, hts, hlk, hin, hKK, hRm, hlaw, hbs⟩ := id Z
  obtain ⟨hH, hL, hg, hs, hk, hS⟩ := hR
  refine lv_goto hx hb hd (of_decide_eq_true ho) ?_
  exact h p e s mid args below meth c R _ _ _ Z ⟨hH, hL, hg, hs, hk, hS⟩
theorem zs_if_icmp {cn : ClassFile.Cond} {off : Int} (Z : ZCt base b L xs D cx mi p s mid args meth c R) (hd : decode (zB mi) pc = .ok (.if_icmp cn off, 3)) (ho : zOkI mi pc (.if_icmp cn off) x = true) (hR : zRL base b L xs D cx mi s σ H jls lz st k locs)
    (h : znx (zf mi) 3 (.if_icmp cn off) x pc lz st σ k (fun pc' ls' st' σ' k' => zSnd l base b L xs D cx mi pc' ls' st' σ' k' Q) Q (fun m' a σ' R => zSnd l base b L xs D cx m' 0 a [] σ' (0, 0) R)) : W p l e R s mid args below meth c H locs k.1 k.2 (zEd base b L xs D cx mi args below s Q) (F0 mid pc jls (st.map (zmv base b))) := by
  obtain ⟨hx, hb, hr, hml, hown, hts, hlk, hin, hKK, hRm, hlaw, hbs⟩ := id Z
  obtain ⟨hH, hL, hg, hs, hk, hS⟩ := hR
  rcases st with _ | ⟨w, st⟩
  · exact False.elim h
  rcases w with v0 | w
  rotate_left
  · exact False.elim h
  rcases st with _ | ⟨w, st⟩
  · exact False.elim h
  rcases w with v1 | w
  rotate_left
  · exact False.elim h
  have g0 : zin v0 := (hs) _ List.mem_cons_self
  have g1 : zin v1 := (zst_t (hs)) _ List.mem_cons_self
  cases cn with
  | eq =>
    obtain ⟨ht, hf⟩ := h
    refine lv_icmp_eq hx hb hd (of_decide_eq_true ho) (fun q => ?_) (fun q => ?_)
    · exact (ht ((zin_eq g1 g0).mp q)) p e s mid args below meth c R _ _ _ Z ⟨hH, hL, hg, zst_t (zst_t hs), hk, hS⟩
    · exact (hf (fun w => q ((zin_eq g1 g0).mpr w))) p e s mid args below meth c R _ _ _ Z ⟨hH, hL, hg, zst_t (zst_t hs), hk, hS⟩
  | ne =>
    obtain ⟨ht, hf⟩ := h
    refine lv_icmp_ne hx hb hd (of_decide_eq_true ho) (fun q => ?_) (fun q => ?_)
    · exact (ht (fun w => q ((zin_eq g1 g0).mpr w))) p e s mid args below meth c R _ _ _ Z ⟨hH, hL, hg, zst_t (zst_t hs), hk, hS⟩
    · exact (hf ((zin_eq g1 g0).mp q)) p e s mid args below meth c R _ _ _ Z ⟨hH, hL, hg, zst_t (zst_t hs), hk, hS⟩
  | lt =>
    obtain ⟨ht, hf⟩ := h
    refine lv_icmp_lt hx hb hd (of_decide_eq_true ho) (fun q => ?_) (fun q => ?_)
    · exact (ht ((zin_lt g1 g0).mp q)) p e s mid args below meth c R _ _ _ Z ⟨hH, hL, hg, zst_t (zst_t hs), hk, hS⟩
    · exact (hf (Int.not_lt.mp (fun w => q ((zin_lt g1 g0).mpr w)))) p e s mid args below meth c R _ _ _ Z ⟨hH, hL, hg, zst_t (zst_t hs), hk, hS⟩
  | ge =>
    obtain ⟨ht, hf⟩ := h
    refine lv_icmp_ge hx hb hd (of_decide_eq_true ho) (fun q => ?_) (fun q => ?_)
    · exact (ht ((zin_le g0 g1).mp q)) p e s mid args below meth c R _ _ _ Z ⟨hH, hL, hg, zst_t (zst_t hs), hk, hS⟩
    · exact (hf (Int.not_le.mp (fun w => q ((zin_le g0 g1).mpr w)))) p e s mid args below meth c R _ _ _ Z ⟨hH, hL, hg, zst_t (zst_t hs), hk, hS⟩
  | gt =>
    obtain ⟨ht, hf⟩ := h
    refine lv_icmp_gt hx hb hd (of_decide_eq_true ho) (fun q => ?_) (fun q => ?_)
    · exact (ht ((zin_lt g0 g1).mp q)) p e s mid args below meth c R _ _ _ Z ⟨hH, hL, hg, zst_t (zst_t hs), hk, hS⟩
    · exact (hf (Int.not_lt.mp (fun w => q ((zin_lt g0 g1).mpr w)))) p e s mid args below meth c R _ _ _ Z ⟨hH, hL, hg, zst_t (zst_t hs), hk, hS⟩
  | le =>
    obtain ⟨ht, hf⟩ := h
    refine lv_icmp_le hx hb hd (of_decide_eq_true ho) (fun q => ?_) (fun q => ?_)
    · exact (ht ((zin_le g1 g0).mp q)) p e s mid args below meth c R _ _ _ Z ⟨hH, hL, hg, zst_t (zst_t hs), hk, hS⟩
    · exact (hf (Int.not_le.mp (fun w => q ((zin_le g1 g0).mpr w)))) p e s mid args below meth c R _ _ _ Z ⟨hH, hL, hg, zst_t (zst_t hs), hk, hS⟩
theorem zs_ifCond {cn : ClassFile.Cond} {off : Int} (Z : ZCt base b L xs D cx mi p s mid args meth c R) (hd : decode (zB mi) pc = .ok (.ifCond cn off, 3)) (ho : zOkI mi pc (.ifCond cn off) x = true) (hR : zRL base b L xs D cx mi s σ H jls lz st k locs)
    (h : znx (zf mi) 3 (.ifCond cn off) x pc lz st σ k (fun pc' ls' st' σ' k' => zSnd l base b L xs D cx mi pc' ls' st' σ' k' Q) Q (fun m' a σ' R => zSnd l base b L xs D cx m' 0 a [] σ' (0, 0) R)) : W p l e R s mid args below meth c H locs k.1 k.2 (zEd base b L xs D cx mi args below s Q) (F0 mid pc jls (st.map (zmv base b))) := by
  obtain ⟨hx, hb, hr, hml, hown, hts, hlk, hin, hKK, hRm, hlaw, hbs⟩ := id Z
  obtain ⟨hH, hL, hg, hs, hk, hS⟩ := hR
  rcases st with _ | ⟨w, st⟩
  · exact False.elim h
  rcases w with v0 | w
  rotate_left
  · exact False.elim h
  have g0 : zin v0 := (hs) _ List.mem_cons_self
  cases cn with
  | eq =>
    obtain ⟨ht, hf⟩ := h
    refine lv_if_eq hx hb hd (of_decide_eq_true ho) (fun q => ?_) (fun q => ?_)
    · exact (ht ((zin_eq g0 zin_0).mp q)) p e s mid args below meth c R _ _ _ Z ⟨hH, hL, hg, zst_t hs, hk, hS⟩
    · exact (hf (fun w => q ((zin_eq g0 zin_0).mpr w))) p e s mid args below meth c R _ _ _ Z ⟨hH, hL, hg, zst_t hs, hk, hS⟩
  | ne =>
    obtain ⟨ht, hf⟩ := h
    refine lv_if_ne hx hb hd (of_decide_eq_true ho) (fun q => ?_) (fun q => ?_)
    · exact (ht (fun w => q ((zin_eq g0 zin_0).mpr w))) p e s mid args below meth c R _ _ _ Z ⟨hH, hL, hg, zst_t hs, hk, hS⟩
    · exact (hf ((zin_eq g0 zin_0).mp q)) p e s mid args below meth c R _ _ _ Z ⟨hH, hL, hg, zst_t hs, hk, hS⟩
  | lt =>
    obtain ⟨ht, hf⟩ := h
    refine lv_if_lt hx hb hd (of_decide_eq_true ho) (fun q => ?_) (fun q => ?_)
    · exact (ht ((zin_lt g0 zin_0).mp q)) p e s mid args below meth c R _ _ _ Z ⟨hH, hL, hg, zst_t hs, hk, hS⟩
    · exact (hf (Int.not_lt.mp (fun w => q ((zin_lt g0 zin_0).mpr w)))) p e s mid args below meth c R _ _ _ Z ⟨hH, hL, hg, zst_t hs, hk, hS⟩
  | ge =>
    obtain ⟨ht, hf⟩ := h
    refine lv_if_ge hx hb hd (of_decide_eq_true ho) (fun q => ?_) (fun q => ?_)
    · exact (ht ((zin_le zin_0 g0).mp q)) p e s mid args below meth c R _ _ _ Z ⟨hH, hL, hg, zst_t hs, hk, hS⟩
    · exact (hf (Int.not_le.mp (fun w => q ((zin_le zin_0 g0).mpr w)))) p e s mid args below meth c R _ _ _ Z ⟨hH, hL, hg, zst_t hs, hk, hS⟩
  | gt =>
    obtain ⟨ht, hf⟩ := h
    refine lv_if_gt hx hb hd (of_decide_eq_true ho) (fun q => ?_) (fun q => ?_)
    · exact (ht ((zin_lt zin_0 g0).mp q)) p e s mid args below meth c R _ _ _ Z ⟨hH, hL, hg, zst_t hs, hk, hS⟩
    · exact (hf (Int.not_lt.mp (fun w => q ((zin_lt zin_0 g0).mpr w)))) p e s mid args below meth c R _ _ _ Z ⟨hH, hL, hg, zst_t hs, hk, hS⟩
  | le =>
    obtain ⟨ht, hf⟩ := h
    refine lv_if_le hx hb hd (of_decide_eq_true ho) (fun q => ?_) (fun q => ?_)
    · exact (ht ((zin_le g0 zin_0).mp q)) p e s mid args below meth c R _ _ _ Z ⟨hH, hL, hg, zst_t hs, hk, hS⟩
    · exact (hf (Int.not_le.mp (fun w => q ((zin_le g0 zin_0).mpr w)))) p e s mid args below meth c R _ _ _ Z ⟨hH, hL, hg, zst_t hs, hk, hS⟩
theorem zs_if_acmp {cn : ACond} {off : Int} (Z : ZCt base b L xs D cx mi p s mid args meth c R) (hd : decode (zB mi) pc = .ok (.if_acmp cn off, 3)) (ho : zOkI mi pc (.if_acmp cn off) x = true) (hR : zRL base b L xs D cx mi s σ H jls lz st k locs)
    (h : znx (zf mi) 3 (.if_acmp cn off) x pc lz st σ k (fun pc' ls' st' σ' k' => zSnd l base b L xs D cx mi pc' ls' st' σ' k' Q) Q (fun m' a σ' R => zSnd l base b L xs D cx m' 0 a [] σ' (0, 0) R)) : W p l e R s mid args below meth c H locs k.1 k.2 (zEd base b L xs D cx mi args below s Q) (F0 mid pc jls (st.map (zmv base b))) := by
  obtain ⟨hx, hb, hr, hml, hown, hts, hlk, hin, hKK, hRm, hlaw, hbs⟩ := id Z
  obtain ⟨hH, hL, hg, hs, hk, hS⟩ := hR
  rcases st with _ | ⟨w, st⟩
  · exact False.elim h
  rcases w with w | w | v0 | w
  · exact False.elim h
  · exact False.elim h
  rotate_left
  · exact False.elim h
  rcases st with _ | ⟨w, st⟩
  · exact False.elim h
  rcases w with w | w | v1 | w
  · exact False.elim h
  · exact False.elim h
  rotate_left
  · exact False.elim h
  have hinj : zra base b v1 = zra base b v0 ↔ v1 = v0 := by
    have hbb := hbs.2
    rcases v1 with _ | _ | v1 <;> rcases v0 with _ | _ | v0 <;> simp [zra] <;> omega
  cases cn with
  | eq =>
    obtain ⟨ht, hf⟩ := h
    refine lv_acmp_eq hx hb hd (of_decide_eq_true ho) (fun q => ?_) (fun q => ?_)
    · exact (ht (hinj.mp q)) p e s mid args below meth c R _ _ _ Z ⟨hH, hL, hg, zst_t (zst_t hs), hk, hS⟩
    · exact (hf (fun w => q (hinj.mpr w))) p e s mid args below meth c R _ _ _ Z ⟨hH, hL, hg, zst_t (zst_t hs), hk, hS⟩
  | ne =>
    obtain ⟨ht, hf⟩ := h
    refine lv_acmp_ne hx hb hd (of_decide_eq_true ho) (fun q => ?_) (fun q => ?_)
    · exact (ht (fun w => q (hinj.mpr w))) p e s mid args below meth c R _ _ _ Z ⟨hH, hL, hg, zst_t (zst_t hs), hk, hS⟩
    · exact (hf (hinj.mp q)) p e s mid args below meth c R _ _ _ Z ⟨hH, hL, hg, zst_t (zst_t hs), hk, hS⟩
theorem zs_tableswitch {d lo hi : Int} {offs : Array Int} {len : Nat} (Z : ZCt base b L xs D cx mi p s mid args meth c R) (hd : decode (zB mi) pc = .ok (.tableswitch d lo hi offs, len)) (ho : zOkI mi pc (.tableswitch d lo hi offs) x = true) (hR : zRL base b L xs D cx mi s σ H jls lz st k locs)
    (h : znx (zf mi) len (.tableswitch d lo hi offs) x pc lz st σ k (fun pc' ls' st' σ' k' => zSnd l base b L xs D cx mi pc' ls' st' σ' k' Q) Q (fun m' a σ' R => zSnd l base b L xs D cx m' 0 a [] σ' (0, 0) R)) : W p l e R s mid args below meth c H locs k.1 k.2 (zEd base b L xs D cx mi args below s Q) (F0 mid pc jls (st.map (zmv base b))) := by
  obtain ⟨hx, hb, hr, hml, hown, hts, hlk, hin, hKK, hRm, hlaw, hbs⟩ := id Z
  obtain ⟨hH, hL, hg, hs, hk, hS⟩ := hR
  rcases st with _ | ⟨w, st⟩
  · exact False.elim h
  rcases w with v0 | w
  rotate_left
  · exact False.elim h
  have ho : (decide ((pc : Int) + d = (zat x 0 : Int)) && decide (offs.toList.map (fun o => (pc : Int) + o) = x.tail.map Int.ofNat) && decide (hi - lo + 1 = (offs.toList.length : Int))) = true := ho
  simp only [Bool.and_eq_true, decide_eq_true_eq] at ho
  obtain ⟨⟨ho1, ho2⟩, ho3⟩ := ho
  obtain ⟨hD, hT⟩ := h
  have g0 : zin v0 := (hs) _ List.mem_cons_self
  by_cases hout : v0 < lo ∨ hi < v0
  · refine lv_tableOut hx hb hd (by rw [zin_toInt g0]; exact hout) ho1 ?_
    exact (hD hout) p e s mid args below meth c R _ _ _ Z ⟨hH, hL, hg, zst_t hs, hk, hS⟩
  · have h1 : ¬ v0 < lo := fun q => hout (Or.inl q)
    have h2 : ¬ hi < v0 := fun q => hout (Or.inr q)
    have hlt : (v0 - lo).toNat < offs.toList.length := by omega
    obtain ⟨off, hoff⟩ : ∃ off, offs.toList[(v0 - lo).toNat]? = some off := ⟨_, List.getElem?_eq_getElem hlt⟩
    have hm : (offs.toList.map (fun o => (pc : Int) + o))[(v0 - lo).toNat]? = some ((pc : Int) + off) := by rw [List.getElem?_map, hoff]; rfl
    rw [ho2, List.getElem?_map] at hm
    cases ht : x.tail[(v0 - lo).toNat]? with
    | none => rw [ht] at hm; cases hm
    | some t =>
      rw [ht] at hm
      have hm : Int.ofNat t = (pc : Int) + off := Option.some.inj hm
      refine lv_tableIn hx hb hd (by rw [zin_toInt g0]; exact h1) (by rw [zin_toInt g0]; exact h2) (off := off) (tgt := t) (by rw [zin_toInt g0, ← Array.getElem?_toList]; exact hoff) hm.symm ?_
      exact (zswT_at _ _ _ t hT ht (by omega)) p e s mid args below meth c R _ _ _ Z ⟨hH, hL, hg, zst_t hs, hk, hS⟩
end ZS1
