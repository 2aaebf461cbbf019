/-! each instruction: the pure step gives the machine's -/
section ZS1
variable {l : Launch} {base b L : Nat} {xs : Nat → Int32} {D : va_G} {cx : Nat → ClassId} {mi pc : Nat} {x : List Nat} {lz st : List PV} {σ : ZM} {k : Nat × Nat} {Q : ZQ} {p : Program} {e : Env} {s : State} {mid : MethodId} {args : Array Value} {below : List Frame} {meth : Method} {c : Code} {R : Room} {jls : Array Slot} {H : Heap} {locs : List Loc}

theorem zs_iconst {n : Int} (Z : ZCt base b L xs D cx mi p s mid args meth c R) (hd : decode (zB mi) pc = .ok (.iconst n, 1)) (ho : zOkI mi pc (.iconst n) x = true) (hR : zRL base b L xs D cx mi s σ H jls lz st k locs)
    (h : znx (zf mi) 1 (.iconst n) x pc lz st σ k (fun pc' ls' st' σ' k' => zSnd l base b L xs D cx mi pc' ls' st' σ' k' Q) Q (fun m' a σ' R => zSnd l base b L xs D cx m' 0 a [] σ' (0, 0) R)) : W p l e R s mid args below meth c H locs k.1 k.2 (zEd base b L xs D cx mi args below s Q) (F0 mid pc jls (st.map (zmv base b))) := by
  obtain ⟨hx, hb, hr, hml, hown, hts, hlk, hin, hKK, hRm, hlaw, hbs⟩ := id Z
  obtain ⟨hH, hL, hg, hs, hk, hS⟩ := hR
  have ho : (decide (-1 ≤ n) && decide (n ≤ 5)) = true := ho
  simp only [Bool.and_eq_true, decide_eq_true_eq] at ho
  refine lv_iconst hx hb hd rfl ?_
  exact h p e s mid args below meth c R _ _ _ Z ⟨hH, hL, hg, zst_c (show zin n from ⟨by omega, by omega⟩) hs, hk, hS⟩
theorem zs_bipush {n : Int} (Z : ZCt base b L xs D cx mi p s mid args meth c R) (hd : decode (zB mi) pc = .ok (.bipush n, 2)) (ho : zOkI mi pc (.bipush n) x = true) (hR : zRL base b L xs D cx mi s σ H jls lz st k locs)
    (h : znx (zf mi) 2 (.bipush n) x pc lz st σ k (fun pc' ls' st' σ' k' => zSnd l base b L xs D cx mi pc' ls' st' σ' k' Q) Q (fun m' a σ' R => zSnd l base b L xs D cx m' 0 a [] σ' (0, 0) R)) : W p l e R s mid args below meth c H locs k.1 k.2 (zEd base b L xs D cx mi args below s Q) (F0 mid pc jls (st.map (zmv base b))) := by
  obtain ⟨hx, hb, hr, hml, hown, hts, hlk, hin, hKK, hRm, hlaw, hbs⟩ := id Z
  obtain ⟨hH, hL, hg, hs, hk, hS⟩ := hR
  have ho : (decide (-128 ≤ n) && decide (n < 128)) = true := ho
  simp only [Bool.and_eq_true, decide_eq_true_eq] at ho
  have hz : (Int8.ofInt n).toInt32 = Int32.ofInt n := by
    apply Int32.toInt_inj.mp
    rw [Int8.toInt_toInt32, Int8.toInt_ofInt_of_le (by omega) (by omega), Int32.toInt_ofInt_of_le (by omega) (by omega)]
  refine lv_bipush hx hb hd hz ?_
  exact h p e s mid args below meth c R _ _ _ Z ⟨hH, hL, hg, zst_c (show zin n from ⟨by omega, by omega⟩) hs, hk, hS⟩
theorem zs_sipush {n : Int} (Z : ZCt base b L xs D cx mi p s mid args meth c R) (hd : decode (zB mi) pc = .ok (.sipush n, 3)) (ho : zOkI mi pc (.sipush n) x = true) (hR : zRL base b L xs D cx mi s σ H jls lz st k locs)
    (h : znx (zf mi) 3 (.sipush n) x pc lz st σ k (fun pc' ls' st' σ' k' => zSnd l base b L xs D cx mi pc' ls' st' σ' k' Q) Q (fun m' a σ' R => zSnd l base b L xs D cx m' 0 a [] σ' (0, 0) R)) : W p l e R s mid args below meth c H locs k.1 k.2 (zEd base b L xs D cx mi args below s Q) (F0 mid pc jls (st.map (zmv base b))) := by
  obtain ⟨hx, hb, hr, hml, hown, hts, hlk, hin, hKK, hRm, hlaw, hbs⟩ := id Z
  obtain ⟨hH, hL, hg, hs, hk, hS⟩ := hR
  have ho : (decide (-32768 ≤ n) && decide (n < 32768)) = true := ho
  simp only [Bool.and_eq_true, decide_eq_true_eq] at ho
  have hz : (Int16.ofInt n).toInt32 = Int32.ofInt n := by
    apply Int32.toInt_inj.mp
    rw [Int16.toInt_toInt32, Int16.toInt_ofInt_of_le (by omega) (by omega), Int32.toInt_ofInt_of_le (by omega) (by omega)]
  refine lv_sipush hx hb hd hz ?_
  exact h p e s mid args below meth c R _ _ _ Z ⟨hH, hL, hg, zst_c (show zin n from ⟨by omega, by omega⟩) hs, hk, hS⟩
theorem zs_ldc {i : Nat} (Z : ZCt base b L xs D cx mi p s mid args meth c R) (hd : decode (zB mi) pc = .ok (.ldc i, 2)) (ho : zOkI mi pc (.ldc i) x = true) (hR : zRL base b L xs D cx mi s σ H jls lz st k locs)
    (h : znx (zf mi) 2 (.ldc i) x pc lz st σ k (fun pc' ls' st' σ' k' => zSnd l base b L xs D cx mi pc' ls' st' σ' k' Q) Q (fun m' a σ' R => zSnd l base b L xs D cx m' 0 a [] σ' (0, 0) R)) : W p l e R s mid args below meth c H locs k.1 k.2 (zEd base b L xs D cx mi args below s Q) (F0 mid pc jls (st.map (zmv base b))) := by
  obtain ⟨hx, hb, hr, hml, hown, hts, hlk, hin, hKK, hRm, hlaw, hbs⟩ := id Z
  obtain ⟨hH, hL, hg, hs, hk, hS⟩ := hR
  have ho : (zwd (zat x 1) (.constant (zOw mi) i (Int32.ofNat (zat x 0))) && decide (zat x 0 < 1000000)) = true := ho
  simp only [Bool.and_eq_true, decide_eq_true_eq] at ho
  refine W.ldc hx hb hown (hts _ (zw_in ho.1)) rfl hd ?_
  exact h p e s mid args below meth c R _ _ _ Z ⟨hH, hL, hg, zst_c (show zin (zat x 0 : Int) from ⟨by omega, by omega⟩) hs, hk, hS⟩
theorem zs_lconst {n : Fin 2} (Z : ZCt base b L xs D cx mi p s mid args meth c R) (hd : decode (zB mi) pc = .ok (.lconst n, 1)) (ho : zOkI mi pc (.lconst n) x = true) (hR : zRL base b L xs D cx mi s σ H jls lz st k locs)
    (h : znx (zf mi) 1 (.lconst n) x pc lz st σ k (fun pc' ls' st' σ' k' => zSnd l base b L xs D cx mi pc' ls' st' σ' k' Q) Q (fun m' a σ' R => zSnd l base b L xs D cx m' 0 a [] σ' (0, 0) R)) : W p l e R s mid args below meth c H locs k.1 k.2 (zEd base b L xs D cx mi args below s Q) (F0 mid pc jls (st.map (zmv base b))) := by
  obtain ⟨hx, hb, hr, hml, hown, hts, hlk, hin, hKK, hRm, hlaw, hbs⟩ := id Z
  obtain ⟨hH, hL, hg, hs, hk, hS⟩ := hR
  refine lv_lconst hx hb hd rfl ?_
  exact h p e s mid args below meth c R _ _ _ Z ⟨hH, hL, hg, zst_c trivial hs, hk, hS⟩
theorem zs_ldc2_w {i : Nat} (Z : ZCt base b L xs D cx mi p s mid args meth c R) (hd : decode (zB mi) pc = .ok (.ldc2_w i, 3)) (ho : zOkI mi pc (.ldc2_w i) x = true) (hR : zRL base b L xs D cx mi s σ H jls lz st k locs)
    (h : znx (zf mi) 3 (.ldc2_w i) x pc lz st σ k (fun pc' ls' st' σ' k' => zSnd l base b L xs D cx mi pc' ls' st' σ' k' Q) Q (fun m' a σ' R => zSnd l base b L xs D cx m' 0 a [] σ' (0, 0) R)) : W p l e R s mid args below meth c H locs k.1 k.2 (zEd base b L xs D cx mi args below s Q) (F0 mid pc jls (st.map (zmv base b))) := by
  obtain ⟨hx, hb, hr, hml, hown, hts, hlk, hin, hKK, hRm, hlaw, hbs⟩ := id Z
  obtain ⟨hH, hL, hg, hs, hk, hS⟩ := hR
  refine W.ldc2 hx hb hown (hts _ (zw_in ho)) rfl hd ?_
  exact h p e s mid args below meth c R _ _ _ Z ⟨hH, hL, hg, zst_c trivial hs, hk, hS⟩
theorem zs_iload_n {n : Fin 4} (Z : ZCt base b L xs D cx mi p s mid args meth c R) (hd : decode (zB mi) pc = .ok (.iload_n n, 1)) (ho : zOkI mi pc (.iload_n n) x = true) (hR : zRL base b L xs D cx mi s σ H jls lz st k locs)
    (h : znx (zf mi) 1 (.iload_n n) x pc lz st σ k (fun pc' ls' st' σ' k' => zSnd l base b L xs D cx mi pc' ls' st' σ' k' Q) Q (fun m' a σ' R => zSnd l base b L xs D cx m' 0 a [] σ' (0, 0) R)) : W p l e R s mid args below meth c H locs k.1 k.2 (zEd base b L xs D cx mi args below s Q) (F0 mid pc jls (st.map (zmv base b))) := by
  obtain ⟨hx, hb, hr, hml, hown, hts, hlk, hin, hKK, hRm, hlaw, hbs⟩ := id Z
  obtain ⟨hH, hL, hg, hs, hk, hS⟩ := hR
  cases hv : znth lz n.val with
  | inl v => 
          have hgv : zgd (znth lz n.val) := by
            by_cases hi : n.val < lz.length
            · rcases hg _ (znth_mem hi) with e0 | e0
              · rw [hv] at e0; cases e0
              · exact e0
            · rw [znth_len (by omega)] at hv; cases hv
          have hl := hL.2.2 _ hgv
          rw [hv] at hl hgv
          simp only [znx, hv] at h
          refine lv_iload_n hx hb hd rfl hl ?_
          exact h p e s mid args below meth c R _ _ _ Z ⟨hH, hL, hg, zst_c hgv hs, hk, hS⟩
  | inr v => cases v with
    | inl v => (simp only [znx, hv] at h)
    | inr v => cases v with
      | inl v => (simp only [znx, hv] at h)
      | inr v => (simp only [znx, hv] at h)
theorem zs_iload {n : Nat} (Z : ZCt base b L xs D cx mi p s mid args meth c R) (hd : decode (zB mi) pc = .ok (.iload n, 2)) (ho : zOkI mi pc (.iload n) x = true) (hR : zRL base b L xs D cx mi s σ H jls lz st k locs)
    (h : znx (zf mi) 2 (.iload n) x pc lz st σ k (fun pc' ls' st' σ' k' => zSnd l base b L xs D cx mi pc' ls' st' σ' k' Q) Q (fun m' a σ' R => zSnd l base b L xs D cx m' 0 a [] σ' (0, 0) R)) : W p l e R s mid args below meth c H locs k.1 k.2 (zEd base b L xs D cx mi args below s Q) (F0 mid pc jls (st.map (zmv base b))) := by
  obtain ⟨hx, hb, hr, hml, hown, hts, hlk, hin, hKK, hRm, hlaw, hbs⟩ := id Z
  obtain ⟨hH, hL, hg, hs, hk, hS⟩ := hR
  cases hv : znth lz n with
  | inl v => 
          have hgv : zgd (znth lz n) := by
            by_cases hi : n < lz.length
            · rcases hg _ (znth_mem hi) with e0 | e0
              · rw [hv] at e0; cases e0
              · exact e0
            · rw [znth_len (by omega)] at hv; cases hv
          have hl := hL.2.2 _ hgv
          rw [hv] at hl hgv
          simp only [znx, hv] at h
          refine lv_iload hx hb hd hl ?_
          exact h p e s mid args below meth c R _ _ _ Z ⟨hH, hL, hg, zst_c hgv hs, hk, hS⟩
  | inr v => cases v with
    | inl v => (simp only [znx, hv] at h)
    | inr v => cases v with
      | inl v => (simp only [znx, hv] at h)
      | inr v => (simp only [znx, hv] at h)
theorem zs_lload_n {n : Fin 4} (Z : ZCt base b L xs D cx mi p s mid args meth c R) (hd : decode (zB mi) pc = .ok (.lload_n n, 1)) (ho : zOkI mi pc (.lload_n n) x = true) (hR : zRL base b L xs D cx mi s σ H jls lz st k locs)
    (h : znx (zf mi) 1 (.lload_n n) x pc lz st σ k (fun pc' ls' st' σ' k' => zSnd l base b L xs D cx mi pc' ls' st' σ' k' Q) Q (fun m' a σ' R => zSnd l base b L xs D cx m' 0 a [] σ' (0, 0) R)) : W p l e R s mid args below meth c H locs k.1 k.2 (zEd base b L xs D cx mi args below s Q) (F0 mid pc jls (st.map (zmv base b))) := by
  obtain ⟨hx, hb, hr, hml, hown, hts, hlk, hin, hKK, hRm, hlaw, hbs⟩ := id Z
  obtain ⟨hH, hL, hg, hs, hk, hS⟩ := hR
  cases hv : znth lz n.val with
  | inl v => (simp only [znx, hv] at h)
  | inr v => cases v with
    | inl v => 
          have hgv : zgd (znth lz n.val) := by
            by_cases hi : n.val < lz.length
            · rcases hg _ (znth_mem hi) with e0 | e0
              · rw [hv] at e0; cases e0
              · exact e0
            · rw [znth_len (by omega)] at hv; cases hv
          have hl := hL.2.2 _ hgv
          rw [hv] at hl hgv
          simp only [znx, hv] at h
          refine lv_lload_n hx hb hd rfl hl ?_
          exact h p e s mid args below meth c R _ _ _ Z ⟨hH, hL, hg, zst_c hgv hs, hk, hS⟩
    | inr v => cases v with
      | inl v => (simp only [znx, hv] at h)
      | inr v => (simp only [znx, hv] at h)
theorem zs_lload {n : Nat} (Z : ZCt base b L xs D cx mi p s mid args meth c R) (hd : decode (zB mi) pc = .ok (.lload n, 2)) (ho : zOkI mi pc (.lload n) x = true) (hR : zRL base b L xs D cx mi s σ H jls lz st k locs)
    (h : znx (zf mi) 2 (.lload n) x pc lz st σ k (fun pc' ls' st' σ' k' => zSnd l base b L xs D cx mi pc' ls' st' σ' k' Q) Q (fun m' a σ' R => zSnd l base b L xs D cx m' 0 a [] σ' (0, 0) R)) : W p l e R s mid args below meth c H locs k.1 k.2 (zEd base b L xs D cx mi args below s Q) (F0 mid pc jls (st.map (zmv base b))) := by
  obtain ⟨hx, hb, hr, hml, hown, hts, hlk, hin, hKK, hRm, hlaw, hbs⟩ := id Z
  obtain ⟨hH, hL, hg, hs, hk, hS⟩ := hR
  cases hv : znth lz n with
  | inl v => (simp only [znx, hv] at h)
  | inr v => cases v with
    | inl v => 
          have hgv : zgd (znth lz n) := by
            by_cases hi : n < lz.length
            · rcases hg _ (znth_mem hi) with e0 | e0
              · rw [hv] at e0; cases e0
              · exact e0
            · rw [znth_len (by omega)] at hv; cases hv
          have hl := hL.2.2 _ hgv
          rw [hv] at hl hgv
          simp only [znx, hv] at h
          refine lv_lload hx hb hd hl ?_
          exact h p e s mid args below meth c R _ _ _ Z ⟨hH, hL, hg, zst_c hgv hs, hk, hS⟩
    | inr v => cases v with
      | inl v => (simp only [znx, hv] at h)
      | inr v => (simp only [znx, hv] at h)
theorem zs_aload_n {n : Fin 4} (Z : ZCt base b L xs D cx mi p s mid args meth c R) (hd : decode (zB mi) pc = .ok (.aload_n n, 1)) (ho : zOkI mi pc (.aload_n n) x = true) (hR : zRL base b L xs D cx mi s σ H jls lz st k locs)
    (h : znx (zf mi) 1 (.aload_n n) x pc lz st σ k (fun pc' ls' st' σ' k' => zSnd l base b L xs D cx mi pc' ls' st' σ' k' Q) Q (fun m' a σ' R => zSnd l base b L xs D cx m' 0 a [] σ' (0, 0) R)) : W p l e R s mid args below meth c H locs k.1 k.2 (zEd base b L xs D cx mi args below s Q) (F0 mid pc jls (st.map (zmv base b))) := by
  obtain ⟨hx, hb, hr, hml, hown, hts, hlk, hin, hKK, hRm, hlaw, hbs⟩ := id Z
  obtain ⟨hH, hL, hg, hs, hk, hS⟩ := hR
  cases hv : znth lz n.val with
  | inl v => (simp only [znx, hv] at h)
  | inr v => cases v with
    | inl v => (simp only [znx, hv] at h)
    | inr v => cases v with
      | inl v => 
          have hgv : zgd (znth lz n.val) := by
            by_cases hi : n.val < lz.length
            · rcases hg _ (znth_mem hi) with e0 | e0
              · rw [hv] at e0; cases e0
              · exact e0
            · rw [znth_len (by omega)] at hv; cases hv
          have hl := hL.2.2 _ hgv
          rw [hv] at hl hgv
          simp only [znx, hv] at h
          refine zq_aload_n hx hb hd hl ?_
          exact h p e s mid args below meth c R _ _ _ Z ⟨hH, hL, hg, zst_c hgv hs, hk, hS⟩
      | inr v => (simp only [znx, hv] at h)
theorem zs_aload {n : Nat} (Z : ZCt base b L xs D cx mi p s mid args meth c R) (hd : decode (zB mi) pc = .ok (.aload n, 2)) (ho : zOkI mi pc (.aload n) x = true) (hR : zRL base b L xs D cx mi s σ H jls lz st k locs)
    (h : znx (zf mi) 2 (.aload n) x pc lz st σ k (fun pc' ls' st' σ' k' => zSnd l base b L xs D cx mi pc' ls' st' σ' k' Q) Q (fun m' a σ' R => zSnd l base b L xs D cx m' 0 a [] σ' (0, 0) R)) : W p l e R s mid args below meth c H locs k.1 k.2 (zEd base b L xs D cx mi args below s Q) (F0 mid pc jls (st.map (zmv base b))) := by
  obtain ⟨hx, hb, hr, hml, hown, hts, hlk, hin, hKK, hRm, hlaw, hbs⟩ := id Z
  obtain ⟨hH, hL, hg, hs, hk, hS⟩ := hR
  cases hv : znth lz n with
  | inl v => (simp only [znx, hv] at h)
  | inr v => cases v with
    | inl v => (simp only [znx, hv] at h)
    | inr v => cases v with
      | inl v => 
          have hgv : zgd (znth lz n) := by
            by_cases hi : n < lz.length
            · rcases hg _ (znth_mem hi) with e0 | e0
              · rw [hv] at e0; cases e0
              · exact e0
            · rw [znth_len (by omega)] at hv; cases hv
          have hl := hL.2.2 _ hgv
          rw [hv] at hl hgv
          simp only [znx, hv] at h
          refine zq_aload hx hb hd hl ?_
          exact h p e s mid args below meth c R _ _ _ Z ⟨hH, hL, hg, zst_c hgv hs, hk, hS⟩
      | inr v => (simp only [znx, hv] at h)
theorem zs_istore_n {n : Fin 4} (Z : ZCt base b L xs D cx mi p s mid args meth c R) (hd : decode (zB mi) pc = .ok (.istore_n n, 1)) (ho : zOkI mi pc (.istore_n n) x = true) (hR : zRL base b L xs D cx mi s σ H jls lz st k locs)
    (h : znx (zf mi) 1 (.istore_n n) x pc lz st σ k (fun pc' ls' st' σ' k' => zSnd l base b L xs D cx mi pc' ls' st' σ' k' Q) Q (fun m' a σ' R => zSnd l base b L xs D cx m' 0 a [] σ' (0, 0) R)) : W p l e R s mid args below meth c H locs k.1 k.2 (zEd base b L xs D cx mi args below s Q) (F0 mid pc jls (st.map (zmv base b))) := by
  obtain ⟨hx, hb, hr, hml, hown, hts, hlk, hin, hKK, hRm, hlaw, hbs⟩ := id Z
  obtain ⟨hH, hL, hg, hs, hk, hS⟩ := hR
  rcases st with _ | ⟨w, st⟩
  · exact False.elim h
  rcases w with v0 | w
  rotate_left
  · exact False.elim h
  have hi : n.val < zML mi := of_decide_eq_true ho
  refine lv_istore_n hx hb hd rfl (zls_has hL hg) hi rfl (fun jls' hl' => ?_)
  exact h p e s mid args below meth c R _ _ _ Z ⟨hH, zLR_set1 hL hi hl', zset1_gl hg (Or.inr (hs _ List.mem_cons_self)), zst_t hs, hk, hS⟩
theorem zs_istore {n : Nat} (Z : ZCt base b L xs D cx mi p s mid args meth c R) (hd : decode (zB mi) pc = .ok (.istore n, 2)) (ho : zOkI mi pc (.istore n) x = true) (hR : zRL base b L xs D cx mi s σ H jls lz st k locs)
    (h : znx (zf mi) 2 (.istore n) x pc lz st σ k (fun pc' ls' st' σ' k' => zSnd l base b L xs D cx mi pc' ls' st' σ' k' Q) Q (fun m' a σ' R => zSnd l base b L xs D cx m' 0 a [] σ' (0, 0) R)) : W p l e R s mid args below meth c H locs k.1 k.2 (zEd base b L xs D cx mi args below s Q) (F0 mid pc jls (st.map (zmv base b))) := by
  obtain ⟨hx, hb, hr, hml, hown, hts, hlk, hin, hKK, hRm, hlaw, hbs⟩ := id Z
  obtain ⟨hH, hL, hg, hs, hk, hS⟩ := hR
  rcases st with _ | ⟨w, st⟩
  · exact False.elim h
  rcases w with v0 | w
  rotate_left
  · exact False.elim h
  have hi : n < zML mi := of_decide_eq_true ho
  refine lv_istore hx hb hd (zls_has hL hg) hi rfl (fun jls' hl' => ?_)
  exact h p e s mid args below meth c R _ _ _ Z ⟨hH, zLR_set1 hL hi hl', zset1_gl hg (Or.inr (hs _ List.mem_cons_self)), zst_t hs, hk, hS⟩
theorem zs_lstore_n {n : Fin 4} (Z : ZCt base b L xs D cx mi p s mid args meth c R) (hd : decode (zB mi) pc = .ok (.lstore_n n, 1)) (ho : zOkI mi pc (.lstore_n n) x = true) (hR : zRL base b L xs D cx mi s σ H jls lz st k locs)
    (h : znx (zf mi) 1 (.lstore_n n) x pc lz st σ k (fun pc' ls' st' σ' k' => zSnd l base b L xs D cx mi pc' ls' st' σ' k' Q) Q (fun m' a σ' R => zSnd l base b L xs D cx m' 0 a [] σ' (0, 0) R)) : W p l e R s mid args below meth c H locs k.1 k.2 (zEd base b L xs D cx mi args below s Q) (F0 mid pc jls (st.map (zmv base b))) := by
  obtain ⟨hx, hb, hr, hml, hown, hts, hlk, hin, hKK, hRm, hlaw, hbs⟩ := id Z
  obtain ⟨hH, hL, hg, hs, hk, hS⟩ := hR
  rcases st with _ | ⟨w, st⟩
  · exact False.elim h
  rcases w with w | v0 | w
  · exact False.elim h
  rotate_left
  · exact False.elim h
  have hi : n.val + 1 < zML mi := of_decide_eq_true ho
  refine lv_lstore_n hx hb hd rfl (zls_has hL hg) hi rfl (fun jls' hl' => ?_)
  exact h p e s mid args below meth c R _ _ _ Z ⟨hH, zLR_set2 hL hi hl', zset2_gl hg (Or.inr (hs _ List.mem_cons_self)), zst_t hs, hk, hS⟩
theorem zs_lstore {n : Nat} (Z : ZCt base b L xs D cx mi p s mid args meth c R) (hd : decode (zB mi) pc = .ok (.lstore n, 2)) (ho : zOkI mi pc (.lstore n) x = true) (hR : zRL base b L xs D cx mi s σ H jls lz st k locs)
    (h : znx (zf mi) 2 (.lstore n) x pc lz st σ k (fun pc' ls' st' σ' k' => zSnd l base b L xs D cx mi pc' ls' st' σ' k' Q) Q (fun m' a σ' R => zSnd l base b L xs D cx m' 0 a [] σ' (0, 0) R)) : W p l e R s mid args below meth c H locs k.1 k.2 (zEd base b L xs D cx mi args below s Q) (F0 mid pc jls (st.map (zmv base b))) := by
  obtain ⟨hx, hb, hr, hml, hown, hts, hlk, hin, hKK, hRm, hlaw, hbs⟩ := id Z
  obtain ⟨hH, hL, hg, hs, hk, hS⟩ := hR
  rcases st with _ | ⟨w, st⟩
  · exact False.elim h
  rcases w with w | v0 | w
  · exact False.elim h
  rotate_left
  · exact False.elim h
  have hi : n + 1 < zML mi := of_decide_eq_true ho
  refine lv_lstore hx hb hd (zls_has hL hg) hi rfl (fun jls' hl' => ?_)
  exact h p e s mid args below meth c R _ _ _ Z ⟨hH, zLR_set2 hL hi hl', zset2_gl hg (Or.inr (hs _ List.mem_cons_self)), zst_t hs, hk, hS⟩
theorem zs_astore_n {n : Fin 4} (Z : ZCt base b L xs D cx mi p s mid args meth c R) (hd : decode (zB mi) pc = .ok (.astore_n n, 1)) (ho : zOkI mi pc (.astore_n n) x = true) (hR : zRL base b L xs D cx mi s σ H jls lz st k locs)
    (h : znx (zf mi) 1 (.astore_n n) x pc lz st σ k (fun pc' ls' st' σ' k' => zSnd l base b L xs D cx mi pc' ls' st' σ' k' Q) Q (fun m' a σ' R => zSnd l base b L xs D cx m' 0 a [] σ' (0, 0) R)) : W p l e R s mid args below meth c H locs k.1 k.2 (zEd base b L xs D cx mi args below s Q) (F0 mid pc jls (st.map (zmv base b))) := by
  obtain ⟨hx, hb, hr, hml, hown, hts, hlk, hin, hKK, hRm, hlaw, hbs⟩ := id Z
  obtain ⟨hH, hL, hg, hs, hk, hS⟩ := hR
  rcases st with _ | ⟨w, st⟩
  · exact False.elim h
  rcases w with w | w | v0 | w
  · exact False.elim h
  · exact False.elim h
  rotate_left
  · exact False.elim h
  have hi : n.val < zML mi := of_decide_eq_true ho
  refine zq_astore_n hx hb hd (zls_has hL hg) hi (fun jls' hl' => ?_)
  exact h p e s mid args below meth c R _ _ _ Z ⟨hH, zLR_set1 hL hi hl', zset1_gl hg (Or.inr (hs _ List.mem_cons_self)), zst_t hs, hk, hS⟩
theorem zs_astore {n : Nat} (Z : ZCt base b L xs D cx mi p s mid args meth c R) (hd : decode (zB mi) pc = .ok (.astore n, 2)) (ho : zOkI mi pc (.astore n) x = true) (hR : zRL base b L xs D cx mi s σ H jls lz st k locs)
    (h : znx (zf mi) 2 (.astore n) x pc lz st σ k (fun pc' ls' st' σ' k' => zSnd l base b L xs D cx mi pc' ls' st' σ' k' Q) Q (fun m' a σ' R => zSnd l base b L xs D cx m' 0 a [] σ' (0, 0) R)) : W p l e R s mid args below meth c H locs k.1 k.2 (zEd base b L xs D cx mi args below s Q) (F0 mid pc jls (st.map (zmv base b))) := by
  obtain ⟨hx, hb, hr, hml, hown, hts, hlk, hin, hKK, hRm, hlaw, hbs⟩ := id Z
  obtain ⟨hH, hL, hg, hs, hk, hS⟩ := hR
  rcases st with _ | ⟨w, st⟩
  · exact False.elim h
  rcases w with w | w | v0 | w
  · exact False.elim h
  · exact False.elim h
  rotate_left
  · exact False.elim h
  have hi : n < zML mi := of_decide_eq_true ho
  refine zq_astore hx hb hd (zls_has hL hg) hi (fun jls' hl' => ?_)
  exact h p e s mid args below meth c R _ _ _ Z ⟨hH, zLR_set1 hL hi hl', zset1_gl hg (Or.inr (hs _ List.mem_cons_self)), zst_t hs, hk, hS⟩
theorem zs_iinc {n : Nat} {d : Int} (Z : ZCt base b L xs D cx mi p s mid args meth c R) (hd : decode (zB mi) pc = .ok (.iinc n d, 3)) (ho : zOkI mi pc (.iinc n d) x = true) (hR : zRL base b L xs D cx mi s σ H jls lz st k locs)
    (h : znx (zf mi) 3 (.iinc n d) x pc lz st σ k (fun pc' ls' st' σ' k' => zSnd l base b L xs D cx mi pc' ls' st' σ' k' Q) Q (fun m' a σ' R => zSnd l base b L xs D cx m' 0 a [] σ' (0, 0) R)) : W p l e R s mid args below meth c H locs k.1 k.2 (zEd base b L xs D cx mi args below s Q) (F0 mid pc jls (st.map (zmv base b))) := by
  obtain ⟨hx, hb, hr, hml, hown, hts, hlk, hin, hKK, hRm, hlaw, hbs⟩ := id Z
  obtain ⟨hH, hL, hg, hs, hk, hS⟩ := hR
  have ho : (decide (n < zML mi) && decide (-128 ≤ d) && decide (d < 128)) = true := ho
  simp only [Bool.and_eq_true, decide_eq_true_eq] at ho
  cases hv : znth lz n with
  | inr v => (rcases v with v | v | v <;> simp only [znx, hv] at h)
  | inl v =>
    have hgv : zgd (znth lz n) := by
      by_cases hi : n < lz.length
      · rcases hg _ (znth_mem hi) with e0 | e0
        · rw [hv] at e0; cases e0
        · exact e0
      · rw [znth_len (by omega)] at hv; cases hv
    have hmem := zls_mem (base := base) (b := b) hgv
    obtain ⟨q, hq⟩ := List.getElem?_of_mem hmem
    rw [hv] at hq
    simp only [znx, hv] at h
    obtain ⟨h1, h⟩ := h
    refine lv_iinc (v := Int32.ofInt (v + d)) hx hb hd (zls_has hL hg) hq (by rw [← Int32.ofInt_add]) ho.1.1 rfl (fun jls' hl' => ?_)
    exact h p e s mid args below meth c R _ _ _ Z ⟨hH, zLR_set1 (v := zi (v + d)) hL ho.1.1 hl', zset1_gl hg (Or.inr h1), hs, hk, hS⟩
theorem zs_iadd  (Z : ZCt base b L xs D cx mi p s mid args meth c R) (hd : decode (zB mi) pc = .ok (.iadd, 1)) (ho : zOkI mi pc (.iadd) x = true) (hR : zRL base b L xs D cx mi s σ H jls lz st k locs)
    (h : znx (zf mi) 1 (.iadd) x pc lz st σ k (fun pc' ls' st' σ' k' => zSnd l base b L xs D cx mi pc' ls' st' σ' k' Q) Q (fun m' a σ' R => zSnd l base b L xs D cx m' 0 a [] σ' (0, 0) R)) : W p l e R s mid args below meth c H locs k.1 k.2 (zEd base b L xs D cx mi args below s Q) (F0 mid pc jls (st.map (zmv base b))) := by
  obtain ⟨hx, hb, hr, hml, hown, hts, hlk, hin, hKK, hRm, hlaw, hbs⟩ := id Z
  obtain ⟨hH, hL, hg, hs, hk, hS⟩ := hR
  rcases st with _ | ⟨w, st⟩
  · exact False.elim h
  rcases w with v0 | w
  rotate_left
  · exact False.elim h
  rcases st with _ | ⟨w, st⟩
  · exact False.elim h
  rcases w with v1 | w
  rotate_left
  · exact False.elim h
  obtain ⟨h1, h⟩ := h
  refine lv_iadd hx hb hd ?_
  rw [← Int32.ofInt_add]
  exact h p e s mid args below meth c R _ _ _ Z ⟨hH, hL, hg, zst_c h1 (zst_t (zst_t (hs))), hk, hS⟩
theorem zs_isub  (Z : ZCt base b L xs D cx mi p s mid args meth c R) (hd : decode (zB mi) pc = .ok (.isub, 1)) (ho : zOkI mi pc (.isub) x = true) (hR : zRL base b L xs D cx mi s σ H jls lz st k locs)
    (h : znx (zf mi) 1 (.isub) x pc lz st σ k (fun pc' ls' st' σ' k' => zSnd l base b L xs D cx mi pc' ls' st' σ' k' Q) Q (fun m' a σ' R => zSnd l base b L xs D cx m' 0 a [] σ' (0, 0) R)) : W p l e R s mid args below meth c H locs k.1 k.2 (zEd base b L xs D cx mi args below s Q) (F0 mid pc jls (st.map (zmv base b))) := by
  obtain ⟨hx, hb, hr, hml, hown, hts, hlk, hin, hKK, hRm, hlaw, hbs⟩ := id Z
  obtain ⟨hH, hL, hg, hs, hk, hS⟩ := hR
  rcases st with _ | ⟨w, st⟩
  · exact False.elim h
  rcases w with v0 | w
  rotate_left
  · exact False.elim h
  rcases st with _ | ⟨w, st⟩
  · exact False.elim h
  rcases w with v1 | w
  rotate_left
  · exact False.elim h
  obtain ⟨h1, h⟩ := h
  refine lv_isub hx hb hd ?_
  rw [← Int32.ofInt_sub]
  exact h p e s mid args below meth c R _ _ _ Z ⟨hH, hL, hg, zst_c h1 (zst_t (zst_t (hs))), hk, hS⟩
theorem zs_imul  (Z : ZCt base b L xs D cx mi p s mid args meth c R) (hd : decode (zB mi) pc = .ok (.imul, 1)) (ho : zOkI mi pc (.imul) x = true) (hR : zRL base b L xs D cx mi s σ H jls lz st k locs)
    (h : znx (zf mi) 1 (.imul) x pc lz st σ k (fun pc' ls' st' σ' k' => zSnd l base b L xs D cx mi pc' ls' st' σ' k' Q) Q (fun m' a σ' R => zSnd l base b L xs D cx m' 0 a [] σ' (0, 0) R)) : W p l e R s mid args below meth c H locs k.1 k.2 (zEd base b L xs D cx mi args below s Q) (F0 mid pc jls (st.map (zmv base b))) := by
  obtain ⟨hx, hb, hr, hml, hown, hts, hlk, hin, hKK, hRm, hlaw, hbs⟩ := id Z
  obtain ⟨hH, hL, hg, hs, hk, hS⟩ := hR
  rcases st with _ | ⟨w, st⟩
  · exact False.elim h
  rcases w with v0 | w
  rotate_left
  · exact False.elim h
  rcases st with _ | ⟨w, st⟩
  · exact False.elim h
  rcases w with v1 | w
  rotate_left
  · exact False.elim h
  obtain ⟨h1, h⟩ := h
  refine lv_imul hx hb hd ?_
  rw [← Int32.ofInt_mul]
  exact h p e s mid args below meth c R _ _ _ Z ⟨hH, hL, hg, zst_c h1 (zst_t (zst_t (hs))), hk, hS⟩
theorem zs_idiv  (Z : ZCt base b L xs D cx mi p s mid args meth c R) (hd : decode (zB mi) pc = .ok (.idiv, 1)) (ho : zOkI mi pc (.idiv) x = true) (hR : zRL base b L xs D cx mi s σ H jls lz st k locs)
    (h : znx (zf mi) 1 (.idiv) x pc lz st σ k (fun pc' ls' st' σ' k' => zSnd l base b L xs D cx mi pc' ls' st' σ' k' Q) Q (fun m' a σ' R => zSnd l base b L xs D cx m' 0 a [] σ' (0, 0) R)) : W p l e R s mid args below meth c H locs k.1 k.2 (zEd base b L xs D cx mi args below s Q) (F0 mid pc jls (st.map (zmv base b))) := by
  obtain ⟨hx, hb, hr, hml, hown, hts, hlk, hin, hKK, hRm, hlaw, hbs⟩ := id Z
  obtain ⟨hH, hL, hg, hs, hk, hS⟩ := hR
  rcases st with _ | ⟨w, st⟩
  · exact False.elim h
  rcases w with v0 | w
  rotate_left
  · exact False.elim h
  rcases st with _ | ⟨w, st⟩
  · exact False.elim h
  rcases w with v1 | w
  rotate_left
  · exact False.elim h
  obtain ⟨h0, h1, h⟩ := h
  have g0 : zin v0 := (hs) _ List.mem_cons_self
  have g1 : zin v1 := (zst_t (hs)) _ List.mem_cons_self
  refine lv_idiv hx hb hd (fun q => h0 ((zin_eq g0 zin_0).mp q)) ?_
  rw [← Int32.ofInt_tdiv g1.1 g1.2 g0.1 g0.2]
  exact h p e s mid args below meth c R _ _ _ Z ⟨hH, hL, hg, zst_c h1 (zst_t (zst_t (hs))), hk, hS⟩
theorem zs_irem  (Z : ZCt base b L xs D cx mi p s mid args meth c R) (hd : decode (zB mi) pc = .ok (.irem, 1)) (ho : zOkI mi pc (.irem) x = true) (hR : zRL base b L xs D cx mi s σ H jls lz st k locs)
    (h : znx (zf mi) 1 (.irem) x pc lz st σ k (fun pc' ls' st' σ' k' => zSnd l base b L xs D cx mi pc' ls' st' σ' k' Q) Q (fun m' a σ' R => zSnd l base b L xs D cx m' 0 a [] σ' (0, 0) R)) : W p l e R s mid args below meth c H locs k.1 k.2 (zEd base b L xs D cx mi args below s Q) (F0 mid pc jls (st.map (zmv base b))) := by
  obtain ⟨hx, hb, hr, hml, hown, hts, hlk, hin, hKK, hRm, hlaw, hbs⟩ := id Z
  obtain ⟨hH, hL, hg, hs, hk, hS⟩ := hR
  rcases st with _ | ⟨w, st⟩
  · exact False.elim h
  rcases w with v0 | w
  rotate_left
  · exact False.elim h
  rcases st with _ | ⟨w, st⟩
  · exact False.elim h
  rcases w with v1 | w
  rotate_left
  · exact False.elim h
  obtain ⟨h0, h1, h⟩ := h
  have g0 : zin v0 := (hs) _ List.mem_cons_self
  have g1 : zin v1 := (zst_t (hs)) _ List.mem_cons_self
  refine lv_irem hx hb hd (fun q => h0 ((zin_eq g0 zin_0).mp q)) ?_
  rw [← Int32.ofInt_tdiv g1.1 g1.2 g0.1 g0.2, ← Int32.ofInt_mul, ← Int32.ofInt_sub, show v1 - v1.tdiv v0 * v0 = v1.tmod v0 by rw [Int.tmod_def, Int.mul_comm]]
  refine h p e s mid args below meth c R _ _ _ Z ⟨hH, hL, hg, zst_c ?_ (zst_t (zst_t (hs))), hk, hS⟩
  have e1 := Int32.ofInt_tmod g1.1 g1.2 g0.1 g0.2
  have e2 := zin_i (Int32.ofInt v1 % Int32.ofInt v0)
  show zin (v1.tmod v0)
  rw [Int32.toInt_mod, zin_toInt g1, zin_toInt g0] at e2
  exact e2
theorem zs_ineg  (Z : ZCt base b L xs D cx mi p s mid args meth c R) (hd : decode (zB mi) pc = .ok (.ineg, 1)) (ho : zOkI mi pc (.ineg) x = true) (hR : zRL base b L xs D cx mi s σ H jls lz st k locs)
    (h : znx (zf mi) 1 (.ineg) x pc lz st σ k (fun pc' ls' st' σ' k' => zSnd l base b L xs D cx mi pc' ls' st' σ' k' Q) Q (fun m' a σ' R => zSnd l base b L xs D cx m' 0 a [] σ' (0, 0) R)) : W p l e R s mid args below meth c H locs k.1 k.2 (zEd base b L xs D cx mi args below s Q) (F0 mid pc jls (st.map (zmv base b))) := by
  obtain ⟨hx, hb, hr, hml, hown, hts, hlk, hin, hKK, hRm, hlaw, hbs⟩ := id Z
  obtain ⟨hH, hL, hg, hs, hk, hS⟩ := hR
  rcases st with _ | ⟨w, st⟩
  · exact False.elim h
  rcases w with v0 | w
  rotate_left
  · exact False.elim h
  obtain ⟨h1, h⟩ := h
  refine lv_ineg hx hb hd ?_
  rw [← Int32.ofInt_neg]
  exact h p e s mid args below meth c R _ _ _ Z ⟨hH, hL, hg, zst_c h1 (zst_t (hs)), hk, hS⟩
theorem zs_iand  (Z : ZCt base b L xs D cx mi p s mid args meth c R) (hd : decode (zB mi) pc = .ok (.iand, 1)) (ho : zOkI mi pc (.iand) x = true) (hR : zRL base b L xs D cx mi s σ H jls lz st k locs)
    (h : znx (zf mi) 1 (.iand) x pc lz st σ k (fun pc' ls' st' σ' k' => zSnd l base b L xs D cx mi pc' ls' st' σ' k' Q) Q (fun m' a σ' R => zSnd l base b L xs D cx m' 0 a [] σ' (0, 0) R)) : W p l e R s mid args below meth c H locs k.1 k.2 (zEd base b L xs D cx mi args below s Q) (F0 mid pc jls (st.map (zmv base b))) := by
  obtain ⟨hx, hb, hr, hml, hown, hts, hlk, hin, hKK, hRm, hlaw, hbs⟩ := id Z
  obtain ⟨hH, hL, hg, hs, hk, hS⟩ := hR
  rcases st with _ | ⟨w, st⟩
  · exact False.elim h
  rcases w with v0 | w
  rotate_left
  · exact False.elim h
  rcases st with _ | ⟨w, st⟩
  · exact False.elim h
  rcases w with v1 | w
  rotate_left
  · exact False.elim h
  have hz := h p e s mid args below meth c R jls H locs Z ⟨hH, hL, hg, zst_c (zin_i _) (zst_t (zst_t (hs))), hk, hS⟩
  refine lv_iand hx hb hd ?_
  have e1 : ∀ y : Int32, Value.int (Int32.ofInt y.toInt) = .int y := fun y => by rw [Int32.ofInt_toInt]
  simp only [List.map_cons, zmv, zand, e1] at hz
  exact hz
theorem zs_ixor  (Z : ZCt base b L xs D cx mi p s mid args meth c R) (hd : decode (zB mi) pc = .ok (.ixor, 1)) (ho : zOkI mi pc (.ixor) x = true) (hR : zRL base b L xs D cx mi s σ H jls lz st k locs)
    (h : znx (zf mi) 1 (.ixor) x pc lz st σ k (fun pc' ls' st' σ' k' => zSnd l base b L xs D cx mi pc' ls' st' σ' k' Q) Q (fun m' a σ' R => zSnd l base b L xs D cx m' 0 a [] σ' (0, 0) R)) : W p l e R s mid args below meth c H locs k.1 k.2 (zEd base b L xs D cx mi args below s Q) (F0 mid pc jls (st.map (zmv base b))) := by
  obtain ⟨hx, hb, hr, hml, hown, hts, hlk, hin, hKK, hRm, hlaw, hbs⟩ := id Z
  obtain ⟨hH, hL, hg, hs, hk, hS⟩ := hR
  rcases st with _ | ⟨w, st⟩
  · exact False.elim h
  rcases w with v0 | w
  rotate_left
  · exact False.elim h
  rcases st with _ | ⟨w, st⟩
  · exact False.elim h
  rcases w with v1 | w
  rotate_left
  · exact False.elim h
  have hz := h p e s mid args below meth c R jls H locs Z ⟨hH, hL, hg, zst_c (zin_i _) (zst_t (zst_t (hs))), hk, hS⟩
  refine lv_ixor hx hb hd ?_
  have e1 : ∀ y : Int32, Value.int (Int32.ofInt y.toInt) = .int y := fun y => by rw [Int32.ofInt_toInt]
  simp only [List.map_cons, zmv, zxor, e1] at hz
  exact hz
theorem zs_ishr  (Z : ZCt base b L xs D cx mi p s mid args meth c R) (hd : decode (zB mi) pc = .ok (.ishr, 1)) (ho : zOkI mi pc (.ishr) x = true) (hR : zRL base b L xs D cx mi s σ H jls lz st k locs)
    (h : znx (zf mi) 1 (.ishr) x pc lz st σ k (fun pc' ls' st' σ' k' => zSnd l base b L xs D cx mi pc' ls' st' σ' k' Q) Q (fun m' a σ' R => zSnd l base b L xs D cx m' 0 a [] σ' (0, 0) R)) : W p l e R s mid args below meth c H locs k.1 k.2 (zEd base b L xs D cx mi args below s Q) (F0 mid pc jls (st.map (zmv base b))) := by
  obtain ⟨hx, hb, hr, hml, hown, hts, hlk, hin, hKK, hRm, hlaw, hbs⟩ := id Z
  obtain ⟨hH, hL, hg, hs, hk, hS⟩ := hR
  rcases st with _ | ⟨w, st⟩
  · exact False.elim h
  rcases w with v0 | w
  rotate_left
  · exact False.elim h
  rcases st with _ | ⟨w, st⟩
  · exact False.elim h
  rcases w with v1 | w
  rotate_left
  · exact False.elim h
  have hz := h p e s mid args below meth c R jls H locs Z ⟨hH, hL, hg, zst_c (zin_i _) (zst_t (zst_t (hs))), hk, hS⟩
  refine lv_ishr hx hb hd ?_
  have e1 : ∀ y : Int32, Value.int (Int32.ofInt y.toInt) = .int y := fun y => by rw [Int32.ofInt_toInt]
  simp only [List.map_cons, zmv, zshr, e1] at hz
  exact hz
theorem zs_ladd  (Z : ZCt base b L xs D cx mi p s mid args meth c R) (hd : decode (zB mi) pc = .ok (.ladd, 1)) (ho : zOkI mi pc (.ladd) x = true) (hR : zRL base b L xs D cx mi s σ H jls lz st k locs)
    (h : znx (zf mi) 1 (.ladd) x pc lz st σ k (fun pc' ls' st' σ' k' => zSnd l base b L xs D cx mi pc' ls' st' σ' k' Q) Q (fun m' a σ' R => zSnd l base b L xs D cx m' 0 a [] σ' (0, 0) R)) : W p l e R s mid args below meth c H locs k.1 k.2 (zEd base b L xs D cx mi args below s Q) (F0 mid pc jls (st.map (zmv base b))) := by
  obtain ⟨hx, hb, hr, hml, hown, hts, hlk, hin, hKK, hRm, hlaw, hbs⟩ := id Z
  obtain ⟨hH, hL, hg, hs, hk, hS⟩ := hR
  rcases st with _ | ⟨w, st⟩
  · exact False.elim h
  rcases w with w | v0 | w
  · exact False.elim h
  rotate_left
  · exact False.elim h
  rcases st with _ | ⟨w, st⟩
  · exact False.elim h
  rcases w with w | v1 | w
  · exact False.elim h
  rotate_left
  · exact False.elim h
  refine lv_ladd hx hb hd ?_
  exact h p e s mid args below meth c R _ _ _ Z ⟨hH, hL, hg, zst_c trivial (zst_t (zst_t (hs))), hk, hS⟩
theorem zs_lsub  (Z : ZCt base b L xs D cx mi p s mid args meth c R) (hd : decode (zB mi) pc = .ok (.lsub, 1)) (ho : zOkI mi pc (.lsub) x = true) (hR : zRL base b L xs D cx mi s σ H jls lz st k locs)
    (h : znx (zf mi) 1 (.lsub) x pc lz st σ k (fun pc' ls' st' σ' k' => zSnd l base b L xs D cx mi pc' ls' st' σ' k' Q) Q (fun m' a σ' R => zSnd l base b L xs D cx m' 0 a [] σ' (0, 0) R)) : W p l e R s mid args below meth c H locs k.1 k.2 (zEd base b L xs D cx mi args below s Q) (F0 mid pc jls (st.map (zmv base b))) := by
  obtain ⟨hx, hb, hr, hml, hown, hts, hlk, hin, hKK, hRm, hlaw, hbs⟩ := id Z
  obtain ⟨hH, hL, hg, hs, hk, hS⟩ := hR
  rcases st with _ | ⟨w, st⟩
  · exact False.elim h
  rcases w with w | v0 | w
  · exact False.elim h
  rotate_left
  · exact False.elim h
  rcases st with _ | ⟨w, st⟩
  · exact False.elim h
  rcases w with w | v1 | w
  · exact False.elim h
  rotate_left
  · exact False.elim h
  refine lv_lsub hx hb hd ?_
  exact h p e s mid args below meth c R _ _ _ Z ⟨hH, hL, hg, zst_c trivial (zst_t (zst_t (hs))), hk, hS⟩
theorem zs_lmul  (Z : ZCt base b L xs D cx mi p s mid args meth c R) (hd : decode (zB mi) pc = .ok (.lmul, 1)) (ho : zOkI mi pc (.lmul) x = true) (hR : zRL base b L xs D cx mi s σ H jls lz st k locs)
    (h : znx (zf mi) 1 (.lmul) x pc lz st σ k (fun pc' ls' st' σ' k' => zSnd l base b L xs D cx mi pc' ls' st' σ' k' Q) Q (fun m' a σ' R => zSnd l base b L xs D cx m' 0 a [] σ' (0, 0) R)) : W p l e R s mid args below meth c H locs k.1 k.2 (zEd base b L xs D cx mi args below s Q) (F0 mid pc jls (st.map (zmv base b))) := by
  obtain ⟨hx, hb, hr, hml, hown, hts, hlk, hin, hKK, hRm, hlaw, hbs⟩ := id Z
  obtain ⟨hH, hL, hg, hs, hk, hS⟩ := hR
  rcases st with _ | ⟨w, st⟩
  · exact False.elim h
  rcases w with w | v0 | w
  · exact False.elim h
  rotate_left
  · exact False.elim h
  rcases st with _ | ⟨w, st⟩
  · exact False.elim h
  rcases w with w | v1 | w
  · exact False.elim h
  rotate_left
  · exact False.elim h
  refine lv_lmul hx hb hd ?_
  exact h p e s mid args below meth c R _ _ _ Z ⟨hH, hL, hg, zst_c trivial (zst_t (zst_t (hs))), hk, hS⟩
theorem zs_land  (Z : ZCt base b L xs D cx mi p s mid args meth c R) (hd : decode (zB mi) pc = .ok (.land, 1)) (ho : zOkI mi pc (.land) x = true) (hR : zRL base b L xs D cx mi s σ H jls lz st k locs)
    (h : znx (zf mi) 1 (.land) x pc lz st σ k (fun pc' ls' st' σ' k' => zSnd l base b L xs D cx mi pc' ls' st' σ' k' Q) Q (fun m' a σ' R => zSnd l base b L xs D cx m' 0 a [] σ' (0, 0) R)) : W p l e R s mid args below meth c H locs k.1 k.2 (zEd base b L xs D cx mi args below s Q) (F0 mid pc jls (st.map (zmv base b))) := by
  obtain ⟨hx, hb, hr, hml, hown, hts, hlk, hin, hKK, hRm, hlaw, hbs⟩ := id Z
  obtain ⟨hH, hL, hg, hs, hk, hS⟩ := hR
  rcases st with _ | ⟨w, st⟩
  · exact False.elim h
  rcases w with w | v0 | w
  · exact False.elim h
  rotate_left
  · exact False.elim h
  rcases st with _ | ⟨w, st⟩
  · exact False.elim h
  rcases w with w | v1 | w
  · exact False.elim h
  rotate_left
  · exact False.elim h
  refine lv_land hx hb hd ?_
  exact h p e s mid args below meth c R _ _ _ Z ⟨hH, hL, hg, zst_c trivial (zst_t (zst_t (hs))), hk, hS⟩
theorem zs_lor  (Z : ZCt base b L xs D cx mi p s mid args meth c R) (hd : decode (zB mi) pc = .ok (.lor, 1)) (ho : zOkI mi pc (.lor) x = true) (hR : zRL base b L xs D cx mi s σ H jls lz st k locs)
    (h : znx (zf mi) 1 (.lor) x pc lz st σ k (fun pc' ls' st' σ' k' => zSnd l base b L xs D cx mi pc' ls' st' σ' k' Q) Q (fun m' a σ' R => zSnd l base b L xs D cx m' 0 a [] σ' (0, 0) R)) : W p l e R s mid args below meth c H locs k.1 k.2 (zEd base b L xs D cx mi args below s Q) (F0 mid pc jls (st.map (zmv base b))) := by
  obtain ⟨hx, hb, hr, hml, hown, hts, hlk, hin, hKK, hRm, hlaw, hbs⟩ := id Z
  obtain ⟨hH, hL, hg, hs, hk, hS⟩ := hR
  rcases st with _ | ⟨w, st⟩
  · exact False.elim h
  rcases w with w | v0 | w
  · exact False.elim h
  rotate_left
  · exact False.elim h
  rcases st with _ | ⟨w, st⟩
  · exact False.elim h
  rcases w with w | v1 | w
  · exact False.elim h
  rotate_left
  · exact False.elim h
  refine lv_lor hx hb hd ?_
  exact h p e s mid args below meth c R _ _ _ Z ⟨hH, hL, hg, zst_c trivial (zst_t (zst_t (hs))), hk, hS⟩
theorem zs_ldiv  (Z : ZCt base b L xs D cx mi p s mid args meth c R) (hd : decode (zB mi) pc = .ok (.ldiv, 1)) (ho : zOkI mi pc (.ldiv) x = true) (hR : zRL base b L xs D cx mi s σ H jls lz st k locs)
    (h : znx (zf mi) 1 (.ldiv) x pc lz st σ k (fun pc' ls' st' σ' k' => zSnd l base b L xs D cx mi pc' ls' st' σ' k' Q) Q (fun m' a σ' R => zSnd l base b L xs D cx m' 0 a [] σ' (0, 0) R)) : W p l e R s mid args below meth c H locs k.1 k.2 (zEd base b L xs D cx mi args below s Q) (F0 mid pc jls (st.map (zmv base b))) := by
  obtain ⟨hx, hb, hr, hml, hown, hts, hlk, hin, hKK, hRm, hlaw, hbs⟩ := id Z
  obtain ⟨hH, hL, hg, hs, hk, hS⟩ := hR
  rcases st with _ | ⟨w, st⟩
  · exact False.elim h
  rcases w with w | v0 | w
  · exact False.elim h
  rotate_left
  · exact False.elim h
  rcases st with _ | ⟨w, st⟩
  · exact False.elim h
  rcases w with w | v1 | w
  · exact False.elim h
  rotate_left
  · exact False.elim h
  obtain ⟨h0, h⟩ := h
  refine lv_ldiv hx hb hd h0 ?_
  exact h p e s mid args below meth c R _ _ _ Z ⟨hH, hL, hg, zst_c trivial (zst_t (zst_t (hs))), hk, hS⟩
theorem zs_lneg  (Z : ZCt base b L xs D cx mi p s mid args meth c R) (hd : decode (zB mi) pc = .ok (.lneg, 1)) (ho : zOkI mi pc (.lneg) x = true) (hR : zRL base b L xs D cx mi s σ H jls lz st k locs)
    (h : znx (zf mi) 1 (.lneg) x pc lz st σ k (fun pc' ls' st' σ' k' => zSnd l base b L xs D cx mi pc' ls' st' σ' k' Q) Q (fun m' a σ' R => zSnd l base b L xs D cx m' 0 a [] σ' (0, 0) R)) : W p l e R s mid args below meth c H locs k.1 k.2 (zEd base b L xs D cx mi args below s Q) (F0 mid pc jls (st.map (zmv base b))) := by
  obtain ⟨hx, hb, hr, hml, hown, hts, hlk, hin, hKK, hRm, hlaw, hbs⟩ := id Z
  obtain ⟨hH, hL, hg, hs, hk, hS⟩ := hR
  rcases st with _ | ⟨w, st⟩
  · exact False.elim h
  rcases w with w | v0 | w
  · exact False.elim h
  rotate_left
  · exact False.elim h
  refine lv_lneg hx hb hd ?_
  exact h p e s mid args below meth c R _ _ _ Z ⟨hH, hL, hg, zst_c trivial (zst_t (hs)), hk, hS⟩
theorem zs_lshl  (Z : ZCt base b L xs D cx mi p s mid args meth c R) (hd : decode (zB mi) pc = .ok (.lshl, 1)) (ho : zOkI mi pc (.lshl) x = true) (hR : zRL base b L xs D cx mi s σ H jls lz st k locs)
    (h : znx (zf mi) 1 (.lshl) x pc lz st σ k (fun pc' ls' st' σ' k' => zSnd l base b L xs D cx mi pc' ls' st' σ' k' Q) Q (fun m' a σ' R => zSnd l base b L xs D cx m' 0 a [] σ' (0, 0) R)) : W p l e R s mid args below meth c H locs k.1 k.2 (zEd base b L xs D cx mi args below s Q) (F0 mid pc jls (st.map (zmv base b))) := by
  obtain ⟨hx, hb, hr, hml, hown, hts, hlk, hin, hKK, hRm, hlaw, hbs⟩ := id Z
  obtain ⟨hH, hL, hg, hs, hk, hS⟩ := hR
  rcases st with _ | ⟨w, st⟩
  · exact False.elim h
  rcases w with v0 | w
  rotate_left
  · exact False.elim h
  rcases st with _ | ⟨w, st⟩
  · exact False.elim h
  rcases w with w | v1 | w
  · exact False.elim h
  rotate_left
  · exact False.elim h
  refine lv_lshl hx hb hd rfl ?_
  exact h p e s mid args below meth c R _ _ _ Z ⟨hH, hL, hg, zst_c trivial (zst_t (zst_t (hs))), hk, hS⟩
theorem zs_i2l  (Z : ZCt base b L xs D cx mi p s mid args meth c R) (hd : decode (zB mi) pc = .ok (.i2l, 1)) (ho : zOkI mi pc (.i2l) x = true) (hR : zRL base b L xs D cx mi s σ H jls lz st k locs)
    (h : znx (zf mi) 1 (.i2l) x pc lz st σ k (fun pc' ls' st' σ' k' => zSnd l base b L xs D cx mi pc' ls' st' σ' k' Q) Q (fun m' a σ' R => zSnd l base b L xs D cx m' 0 a [] σ' (0, 0) R)) : W p l e R s mid args below meth c H locs k.1 k.2 (zEd base b L xs D cx mi args below s Q) (F0 mid pc jls (st.map (zmv base b))) := by
  obtain ⟨hx, hb, hr, hml, hown, hts, hlk, hin, hKK, hRm, hlaw, hbs⟩ := id Z
  obtain ⟨hH, hL, hg, hs, hk, hS⟩ := hR
  rcases st with _ | ⟨w, st⟩
  · exact False.elim h
  rcases w with v0 | w
  rotate_left
  · exact False.elim h
  have g0 : zin v0 := (hs) _ List.mem_cons_self
  refine lv_i2l hx hb hd (Int32.toInt64_ofInt g0.1 g0.2) ?_
  exact h p e s mid args below meth c R _ _ _ Z ⟨hH, hL, hg, zst_c trivial (zst_t (hs)), hk, hS⟩
theorem zs_l2i  (Z : ZCt base b L xs D cx mi p s mid args meth c R) (hd : decode (zB mi) pc = .ok (.l2i, 1)) (ho : zOkI mi pc (.l2i) x = true) (hR : zRL base b L xs D cx mi s σ H jls lz st k locs)
    (h : znx (zf mi) 1 (.l2i) x pc lz st σ k (fun pc' ls' st' σ' k' => zSnd l base b L xs D cx mi pc' ls' st' σ' k' Q) Q (fun m' a σ' R => zSnd l base b L xs D cx m' 0 a [] σ' (0, 0) R)) : W p l e R s mid args below meth c H locs k.1 k.2 (zEd base b L xs D cx mi args below s Q) (F0 mid pc jls (st.map (zmv base b))) := by
  obtain ⟨hx, hb, hr, hml, hown, hts, hlk, hin, hKK, hRm, hlaw, hbs⟩ := id Z
  obtain ⟨hH, hL, hg, hs, hk, hS⟩ := hR
  rcases st with _ | ⟨w, st⟩
  · exact False.elim h
  rcases w with w | v0 | w
  · exact False.elim h
  rotate_left
  · exact False.elim h
  refine lv_l2i hx hb hd (v := Int32.ofInt v0.toInt32.toInt) (by rw [Int32.ofInt_toInt]) ?_
  exact h p e s mid args below meth c R _ _ _ Z ⟨hH, hL, hg, zst_c (zin_i _) (zst_t (hs)), hk, hS⟩
theorem zs_dup  (Z : ZCt base b L xs D cx mi p s mid args meth c R) (hd : decode (zB mi) pc = .ok (.dup, 1)) (ho : zOkI mi pc (.dup) x = true) (hR : zRL base b L xs D cx mi s σ H jls lz st k locs)
    (h : znx (zf mi) 1 (.dup) x pc lz st σ k (fun pc' ls' st' σ' k' => zSnd l base b L xs D cx mi pc' ls' st' σ' k' Q) Q (fun m' a σ' R => zSnd l base b L xs D cx m' 0 a [] σ' (0, 0) R)) : W p l e R s mid args below meth c H locs k.1 k.2 (zEd base b L xs D cx mi args below s Q) (F0 mid pc jls (st.map (zmv base b))) := by
  obtain ⟨hx, hb, hr, hml, hown, hts, hlk, hin, hKK, hRm, hlaw, hbs⟩ := id Z
  obtain ⟨hH, hL, hg, hs, hk, hS⟩ := hR
  rcases st with _ | ⟨w, st⟩
  · exact False.elim h
  obtain ⟨v0, hv0⟩ : ∃ z, z = w := ⟨_, rfl⟩
  subst hv0
  cases hv : zisl v0 with
  | true => (simp only [znx, hv] at h)
  | false =>
    simp only [znx, hv] at h
    refine lv_dup hx hb hd (zmv_1 hv) ?_
    exact h p e s mid args below meth c R _ _ _ Z ⟨hH, hL, hg, zst_c ((hs) _ List.mem_cons_self) hs, hk, hS⟩
theorem zs_pop  (Z : ZCt base b L xs D cx mi p s mid args meth c R) (hd : decode (zB mi) pc = .ok (.pop, 1)) (ho : zOkI mi pc (.pop) x = true) (hR : zRL base b L xs D cx mi s σ H jls lz st k locs)
    (h : znx (zf mi) 1 (.pop) x pc lz st σ k (fun pc' ls' st' σ' k' => zSnd l base b L xs D cx mi pc' ls' st' σ' k' Q) Q (fun m' a σ' R => zSnd l base b L xs D cx m' 0 a [] σ' (0, 0) R)) : W p l e R s mid args below meth c H locs k.1 k.2 (zEd base b L xs D cx mi args below s Q) (F0 mid pc jls (st.map (zmv base b))) := by
  obtain ⟨hx, hb, hr, hml, hown, hts, hlk, hin, hKK, hRm, hlaw, hbs⟩ := id Z
  obtain ⟨hH, hL, hg, hs, hk, hS⟩ := hR
  rcases st with _ | ⟨w, st⟩
  · exact False.elim h
  obtain ⟨v0, hv0⟩ : ∃ z, z = w := ⟨_, rfl⟩
  subst hv0
  cases hv : zisl v0 with
  | true => (simp only [znx, hv] at h)
  | false =>
    simp only [znx, hv] at h
    refine lv_pop hx hb hd (zmv_1 hv) ?_
    exact h p e s mid args below meth c R _ _ _ Z ⟨hH, hL, hg, zst_t hs, hk, hS⟩
theorem zs_dup2  (Z : ZCt base b L xs D cx mi p s mid args meth c R) (hd : decode (zB mi) pc = .ok (.dup2, 1)) (ho : zOkI mi pc (.dup2) x = true) (hR : zRL base b L xs D cx mi s σ H jls lz st k locs)
    (h : znx (zf mi) 1 (.dup2) x pc lz st σ k (fun pc' ls' st' σ' k' => zSnd l base b L xs D cx mi pc' ls' st' σ' k' Q) Q (fun m' a σ' R => zSnd l base b L xs D cx m' 0 a [] σ' (0, 0) R)) : W p l e R s mid args below meth c H locs k.1 k.2 (zEd base b L xs D cx mi args below s Q) (F0 mid pc jls (st.map (zmv base b))) := by
  obtain ⟨hx, hb, hr, hml, hown, hts, hlk, hin, hKK, hRm, hlaw, hbs⟩ := id Z
  obtain ⟨hH, hL, hg, hs, hk, hS⟩ := hR
  rcases st with _ | ⟨w, st⟩
  · exact False.elim h
  obtain ⟨v0, hv0⟩ : ∃ z, z = w := ⟨_, rfl⟩
  subst hv0
  rcases st with _ | ⟨w, st⟩
  · exact False.elim h
  obtain ⟨v1, hv1⟩ : ∃ z, z = w := ⟨_, rfl⟩
  subst hv1
  cases hv : zisl v0 with
  | true => (simp only [znx, hv, Bool.true_or] at h)
  | false => cases hw : zisl v1 with
    | true => (simp only [znx, hv, hw, Bool.or_true] at h)
    | false =>
      simp only [znx, hv, hw, Bool.or_false] at h
      refine lv_dup2_11 hx hb hd (zmv_1 hv) (zmv_1 hw) ?_
      exact h p e s mid args below meth c R _ _ _ Z ⟨hH, hL, hg, zst_c ((hs) _ List.mem_cons_self) (zst_c ((zst_t (hs)) _ List.mem_cons_self) hs), hk, hS⟩
end ZS1
