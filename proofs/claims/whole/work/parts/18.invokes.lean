/-! the calls of a frame -/
theorem zWs_good {m' i : Nat} (h : zwd i (.code (zNm m') (zB m') (zML m') (zRt m')) = true) : GoodIn zW (zWs m') := by
  intro w hw
  have hz : w ∈ zW := by
    rcases List.mem_cons.mp hw with e | e
    · rw [e]; exact zw_in h
    · exact e
  exact ⟨hz, good_of_word (List.mem_filter.mp hz).2⟩
theorem zNmL_len : zNmL.length = 247 := by decide +kernel
section ZCR
variable {l : Launch} {base b L : Nat} {xs : Nat → Int32} {D : va_G} {cx : Nat → ClassId} {mi pc idx : Nat} {x : List Nat} {lz : List PV} {σ : ZM} {k : Nat × Nat} {Q : ZQ} {p : Program} {e : Env} {s : State} {mid : MethodId} {args : Array Value} {below : List Frame} {meth : Method} {c : Code} {R : Room} {jls : Array Slot} {H : Heap} {locs : List Loc} {as st' : List PV} {R' : ZQ} {st0 : List Value}
theorem zrunS (Z : ZCt base b L xs D cx mi p s mid args meth c R) (hjs : jls.size = zML mi) (ho : zOkC mi idx 2 x = true) (h98 : Nat.beq (zat x 6) 98 = false) (hd : decode (zB mi) pc = .ok (.invokestatic idx, 3)) (hH : zHp base b L xs D cx σ H) (hS : va_S (fun q => base ≤ q) s.heap H locs)
    (hst : st0 = (as.map (zmv base b)).reverse ++ st'.map (zmv base b)) (hn : as.length = zat x 1) (hcs : zcats st' ≤ 8) (hca : zcats as ≤ zat x 2) (hga : ∀ v ∈ as, zgd v) (hf : k.1 + (zf (zat x 0)).2.1 ≤ (zf mi).2.1 ∧ k.2 + (zf (zat x 0)).2.2 ≤ (zf mi).2.2) (h : zSnd l base b L xs D cx (zat x 0) 0 (zlocs (zat x 2) as) [] σ (0, 0) R') :
    ∃ a, va_Run p l e R s mid args below meth c H locs k.1 k.2 (zf (zat x 0)).2.1 (zf (zat x 0)).2.2 (F0 mid pc jls st0) (st'.map (zmv base b)) (zQc base b L xs D cx (zat x 0) R' a) (fun q => base ≤ q) := by
  obtain ⟨hx, hb, hr, hml, hown, hts, hlk, hin, hKK, hRm, hlaw, hbs, hbb⟩ := id Z
  unfold zOkC at ho
  rw [h98] at ho
  simp only [Bool.and_eq_true, decide_eq_true_eq] at ho
  obtain ⟨⟨⟨⟨⟨⟨⟨⟨⟨⟨⟨⟨⟨⟨⟨h1, h2⟩, h3⟩, h4⟩, h5⟩, h6⟩, h7⟩, h8⟩, h9⟩, h10⟩, h11⟩, h12⟩, h13⟩, h14⟩, h15⟩, h16⟩ := ho
  obtain ⟨⟨-, h17⟩, h18⟩ := h16
  have hini : zIn (zat x 0) = true → (zNm (zat x 0)).name = "<init>" := fun q => by
    have := List.all_eq_true.mp zin_ok (zat x 0) (List.mem_range.mpr (by rw [zNmL_len] at h2; exact h2))
    rw [q] at this
    simpa using this
  rw [h3] at h hca
  have hM := zMet hbb (show zat x 0 ≠ 0 by omega) h14 h11 hini hca hga h
  have hG := zWs_good h9
  subst hRm
  have hp : PreS s H (zPc base b L xs D cx as σ) (as.map (zmv base b)) := ⟨zPc_blind, fun U hU hW => ⟨rfl, by rw [hU]; exact hH, zKK_moved hW hKK, by rw [hU]; exact Nat.le_trans hbs hS.1⟩⟩
  refine ⟨(as.map (zmv base b)).toArray, ?_⟩
  subst hst
  generalize zat x 7 = md at h15
  rcases md with _ | md
  · exact va_runS (n := zat x 1) ⟨hx, hb, hml, hown, hts⟩ hM ⟨callB_of (zat x 1) hts hG rfl rfl rfl (hts _ (zw_in h10)) (hts _ (zw_in h15)) ⟨h12, h13, h18⟩ ⟨h7, h8⟩, hts _ (zw_in h17)⟩ hp rfl (by rw [List.length_map]; exact hn) hjs rfl (lv_room (by rw [zcats_mv]; exact hcs)) hd hf
  · exact va_runSN (n := zat x 1) ⟨hx, hb, hml, hown, hts⟩ hM ⟨va_cnB (zat x 1) hts hG rfl rfl rfl (hKK.2.2.1 _ (zn_in h15)) (hts _ (zw_in h10)) ⟨h12, h13, h18⟩ ⟨h7, h8⟩, hts _ (zw_in h17), trivial⟩ hp rfl (by rw [List.length_map]; exact hn) hjs rfl (lv_room (by rw [zcats_mv]; exact hcs)) hd hf
theorem zrunV (Z : ZCt base b L xs D cx mi p s mid args meth c R) (hjs : jls.size = zML mi) (ho : zOkC mi idx 0 x = true) (h98 : Nat.beq (zat x 6) 98 = false) (hd : decode (zB mi) pc = .ok (.invokevirtual idx, 3)) (hH : zHp base b L xs D cx σ H) (hS : va_S (fun q => base ≤ q) s.heap H locs)
    (hst : st0 = (as.map (zmv base b)).reverse ++ st'.map (zmv base b)) (hn : as.length = zat x 1) (hcs : zcats st' ≤ 8) (hca : zcats as ≤ zat x 2) (hga : ∀ v ∈ as, zgd v) (hrc : zrecv σ as (zat x 6)) (hf : k.1 + (zf (zat x 0)).2.1 ≤ (zf mi).2.1 ∧ k.2 + (zf (zat x 0)).2.2 ≤ (zf mi).2.2) (h : zSnd l base b L xs D cx (zat x 0) 0 (zlocs (zat x 2) as) [] σ (0, 0) R') :
    ∃ a, va_Run p l e R s mid args below meth c H locs k.1 k.2 (zf (zat x 0)).2.1 (zf (zat x 0)).2.2 (F0 mid pc jls st0) (st'.map (zmv base b)) (zQc base b L xs D cx (zat x 0) R' a) (fun q => base ≤ q) := by
  obtain ⟨hx, hb, hr, hml, hown, hts, hlk, hin, hKK, hRm, hlaw, hbs, hbb⟩ := id Z
  unfold zOkC at ho
  rw [h98] at ho
  simp only [Bool.and_eq_true, decide_eq_true_eq] at ho
  obtain ⟨⟨⟨⟨⟨⟨⟨⟨⟨⟨⟨⟨⟨⟨⟨h1, h2⟩, h3⟩, h4⟩, h5⟩, h6⟩, h7⟩, h8⟩, h9⟩, h10⟩, h11⟩, h12⟩, h13⟩, h14⟩, h15⟩, h16⟩ := ho
  obtain ⟨⟨⟨⟨hci, hcn⟩, h17⟩, h18⟩, h19⟩ := h16
  have hini : zIn (zat x 0) = true → (zNm (zat x 0)).name = "<init>" := fun q => by
    have := List.all_eq_true.mp zin_ok (zat x 0) (List.mem_range.mpr (by rw [zNmL_len] at h2; exact h2))
    rw [q] at this
    simpa using this
  rw [h3] at h hca
  have hM := zMet hbb (show zat x 0 ≠ 0 by omega) h14 h11 hini hca hga h
  have hG := zWs_good h9
  subst hRm
  rcases as with _ | ⟨w, as⟩
  · exact False.elim hrc
  rcases w with w | w | a | w
  · exact False.elim hrc
  · exact False.elim hrc
  rotate_left
  · exact False.elim hrc
  have hob : zobj σ a (zat x 6) := hrc
  have hO := zobj_at hH hci hob
  have hKn := hKK.1.1 _ _ (zcl_q hci)
  have hmv : zmv base b (zr a) = .ref (base + (a - 2)) := zra_ref hob.1
  have hn' : (as.map (zmv base b)).length = (parseMethodDescriptor (zNm (zat x 0)).desc).elim 0 (fun d => d.parameters.length) := by
    rw [List.length_map]
    cases hpd : parseMethodDescriptor (zNm (zat x 0)).desc with
    | none => rw [hpd] at h19; cases h19
    | some d =>
      rw [hpd] at h19
      have h19 : d.parameters.length + 1 = zat x 1 := Option.some.inj h19
      rw [← hn] at h19
      simp at h19
      exact h19.symm
  have hpd : (parseMethodDescriptor (zNm (zat x 0)).desc).map (fun d => d.parameters.length) = some ((parseMethodDescriptor (zNm (zat x 0)).desc).elim 0 (fun d => d.parameters.length)) := by
    cases hpd : parseMethodDescriptor (zNm (zat x 0)).desc with
    | none => rw [hpd] at h19; cases h19
    | some d => rfl
  have hp : PreV s H (zNm (zat x 0)).cls (base + (a - 2)) (zPc base b L xs D cx (zr a :: as) σ) (as.map (zmv base b)) := by
    refine ⟨zPc_blind, ?_, fun U hU hW => ⟨by rw [List.map_cons, hmv], by rw [hU]; exact hH, zKK_moved hW hKK, by rw [hU]; exact Nat.le_trans hbs hS.1⟩⟩
    obtain ⟨cell, g1, g2, g3, -⟩ := hO
    exact ⟨cell, g1, by rw [g3]; rfl, by rw [g2, ← hcn]; exact hKn.2.1⟩
  refine ⟨(Value.ref (base + (a - 2)) :: as.map (zmv base b)).toArray, ?_⟩
  have hst : st0 = (as.map (zmv base b)).reverse ++ .ref (base + (a - 2)) :: st'.map (zmv base b) := by
    rw [hst, List.map_cons, hmv, List.reverse_cons, List.append_assoc]
    rfl
  subst hst
  generalize zat x 7 = md at h15
  rcases md with _ | md
  · exact va_runV ⟨hx, hb, hml, hown, hts⟩ hM ⟨callB_of _ hts hG rfl rfl rfl (hts _ (zw_in h10)) (hts _ (zw_in h15)) ⟨h12, h13, hpd⟩ ⟨h7, h8⟩, hts _ (zw_in h17), hts _ (zw_in h18)⟩ hp rfl hn' hjs rfl (lv_room (by rw [zcats_mv]; exact hcs)) hd hf
  · exact va_runVN ⟨hx, hb, hml, hown, hts⟩ hM ⟨va_cnB _ hts hG rfl rfl rfl (hKK.2.2.1 _ (zn_in h15)) (hts _ (zw_in h10)) ⟨h12, h13, hpd⟩ ⟨h7, h8⟩, hts _ (zw_in h17), hts _ (zw_in h18)⟩ hp rfl hn' hjs rfl (lv_room (by rw [zcats_mv]; exact hcs)) hd hf
theorem zrunI (Z : ZCt base b L xs D cx mi p s mid args meth c R) (hjs : jls.size = zML mi) (ho : zOkC mi idx 1 x = true) (h98 : Nat.beq (zat x 6) 98 = false) (hd : decode (zB mi) pc = .ok (.invokespecial idx, 3)) (hH : zHp base b L xs D cx σ H) (hS : va_S (fun q => base ≤ q) s.heap H locs)
    (hst : st0 = (as.map (zmv base b)).reverse ++ st'.map (zmv base b)) (hn : as.length = zat x 1) (hcs : zcats st' ≤ 8) (hca : zcats as ≤ zat x 2) (hga : ∀ v ∈ as, zgd v) (hrc : zrecv σ as (zat x 6)) (hf : k.1 + (zf (zat x 0)).2.1 ≤ (zf mi).2.1 ∧ k.2 + (zf (zat x 0)).2.2 ≤ (zf mi).2.2) (h : zSnd l base b L xs D cx (zat x 0) 0 (zlocs (zat x 2) as) [] σ (0, 0) R') :
    ∃ a, va_Run p l e R s mid args below meth c H locs k.1 k.2 (zf (zat x 0)).2.1 (zf (zat x 0)).2.2 (F0 mid pc jls st0) (st'.map (zmv base b)) (zQc base b L xs D cx (zat x 0) R' a) (fun q => base ≤ q) := by
  obtain ⟨hx, hb, hr, hml, hown, hts, hlk, hin, hKK, hRm, hlaw, hbs, hbb⟩ := id Z
  unfold zOkC at ho
  rw [h98] at ho
  simp only [Bool.and_eq_true, decide_eq_true_eq] at ho
  obtain ⟨⟨⟨⟨⟨⟨⟨⟨⟨⟨⟨⟨⟨⟨⟨h1, h2⟩, h3⟩, h4⟩, h5⟩, h6⟩, h7⟩, h8⟩, h9⟩, h10⟩, h11⟩, h12⟩, h13⟩, h14⟩, h15⟩, h16⟩ := ho
  obtain ⟨⟨⟨⟨⟨hci, hcn⟩, h17⟩, h18⟩, hrn⟩, h19⟩ := h16
  have hini : zIn (zat x 0) = true → (zNm (zat x 0)).name = "<init>" := fun _ => h18
  rw [h3] at h hca
  have hM := zMet hbb (show zat x 0 ≠ 0 by omega) h14 h11 hini hca hga h
  have hG := zWs_good h9
  subst hRm
  rcases as with _ | ⟨w, as⟩
  · exact False.elim hrc
  rcases w with w | w | a | w
  · exact False.elim hrc
  · exact False.elim hrc
  rotate_left
  · exact False.elim hrc
  have hob : zobj σ a (zat x 6) := hrc
  have hmv : zmv base b (zr a) = .ref (base + (a - 2)) := zra_ref hob.1
  have hn' : (as.map (zmv base b)).length = (parseMethodDescriptor (zNm (zat x 0)).desc).elim 0 (fun d => d.parameters.length) := by
    rw [List.length_map]
    cases hpd : parseMethodDescriptor (zNm (zat x 0)).desc with
    | none => rw [hpd] at h19; cases h19
    | some d =>
      rw [hpd] at h19
      have h19 : d.parameters.length + 1 = zat x 1 := Option.some.inj h19
      rw [← hn] at h19
      simp at h19
      exact h19.symm
  have hpd : (parseMethodDescriptor (zNm (zat x 0)).desc).map (fun d => d.parameters.length) = some ((parseMethodDescriptor (zNm (zat x 0)).desc).elim 0 (fun d => d.parameters.length)) := by
    cases hpd : parseMethodDescriptor (zNm (zat x 0)).desc with
    | none => rw [hpd] at h19; cases h19
    | some d => rfl
  have hp : PreS s H (zPc base b L xs D cx (zr a :: as) σ) (.ref (base + (a - 2)) :: as.map (zmv base b)) := ⟨zPc_blind, fun U hU hW => ⟨by rw [List.map_cons, hmv], by rw [hU]; exact hH, zKK_moved hW hKK, by rw [hU]; exact Nat.le_trans hbs hS.1⟩⟩
  refine ⟨(Value.ref (base + (a - 2)) :: as.map (zmv base b)).toArray, ?_⟩
  have hst : st0 = (as.map (zmv base b)).reverse ++ .ref (base + (a - 2)) :: st'.map (zmv base b) := by
    rw [hst, List.map_cons, hmv, List.reverse_cons, List.append_assoc]
    rfl
  subst hst
  have hM' := hM
  unfold zWs at hM' hG
  rw [hrn] at hM' hG
  generalize zat x 7 = md at h15
  rcases md with _ | md
  · exact va_runI ⟨hx, hb, hml, hown, hts⟩ hM' ⟨callB_of _ hts hG rfl rfl rfl (hts _ (zw_in h10)) (hts _ (zw_in h15)) ⟨h12, h13, hpd⟩ ⟨h7, h8⟩, h18, hts _ (zw_in h17)⟩ hp rfl hn' hjs rfl (lv_room (by rw [zcats_mv]; exact hcs)) hd hf
  · exact va_runIN ⟨hx, hb, hml, hown, hts⟩ hM' ⟨va_cnB _ hts hG rfl rfl rfl (hKK.2.2.1 _ (zn_in h15)) (hts _ (zw_in h10)) ⟨h12, h13, hpd⟩ ⟨h7, h8⟩, h18, hts _ (zw_in h17)⟩ hp rfl hn' hjs rfl (lv_room (by rw [zcats_mv]; exact hcs)) hd hf
end ZCR
section ZS1
variable {l : Launch} {base b L : Nat} {xs : Nat → Int32} {D : va_G} {cx : Nat → ClassId} {mi pc : Nat} {x : List Nat} {lz st : List PV} {σ : ZM} {k : Nat × Nat} {Q : ZQ} {p : Program} {e : Env} {s : State} {mid : MethodId} {args : Array Value} {below : List Frame} {meth : Method} {c : Code} {R : Room} {jls : Array Slot} {H : Heap} {locs : List Loc}

theorem zs_invokestatic {i : Nat} (Z : ZCt base b L xs D cx mi p s mid args meth c R) (hd : decode (zB mi) pc = .ok (.invokestatic i, 3)) (ho : zOkI mi pc (.invokestatic i) x = true) (hR : zRL base b L xs D cx mi s σ H jls lz st k locs)
    (h : znx (zf mi) 3 (.invokestatic i) x pc lz st σ k (fun pc' ls' st' σ' k' => zSnd l base b L xs D cx mi pc' ls' st' σ' k' Q) Q (fun m' a σ' R => zSnd l base b L xs D cx m' 0 a [] σ' (0, 0) R)) : W p l e R s mid args below meth c H locs k.1 k.2 (zEd base b L xs D cx mi args below s Q) (F0 mid pc jls (st.map (zmv base b))) := by
  obtain ⟨hx, hb, hr, hml, hown, hts, hlk, hin, hKK, hRm, hlaw, hbs⟩ := id Z
  obtain ⟨hH, hL, hg, hs, hk, hS⟩ := hR
  have ho : zOkC mi i 2 x = true := ho
  have h : zcall (zf mi) x pc lz st σ k (fun pc' ls' st' σ' k' => zSnd l base b L xs D cx mi pc' ls' st' σ' k' Q) (fun m' a σ' R => zSnd l base b L xs D cx m' 0 a [] σ' (0, 0) R) := h
  have hjs : jls.size = zML mi := hL.2.1.1
  cases h98 : Nat.beq (zat x 6) 98 with
  | true =>
    unfold zcall at h
    rw [h98] at h
    dsimp only at h
    unfold zOkC at ho
    rw [h98] at ho
    simp at ho
  | false =>
    unfold zcall at h
    rw [h98] at h
    cases hpop : zpop (zat x 1) [] st with
    | none =>
      rw [hpop] at h
      exact False.elim h
    | some as =>
      obtain ⟨as, st'⟩ := as
      rw [hpop] at h
      dsimp only at h
      obtain ⟨r, e1, e2, e3⟩ := zpop_spec _ _ _ _ _ hpop
      rw [List.append_nil] at e1
      subst e1
      have hst : st.map (zmv base b) = (as.map (zmv base b)).reverse ++ st'.map (zmv base b) := by rw [e2, List.map_append, List.map_reverse]
      have hga : ∀ v ∈ as, zgd v := fun v hv => hs v (by rw [e2]; exact List.mem_append_left _ (List.mem_reverse.mpr hv))
      have hgs : ∀ v ∈ st', zgd v := fun v hv => hs v (by rw [e2]; exact List.mem_append_right _ hv)
      cases hble : (Nat.ble (zcats st') 8 && Nat.ble (zcats as) (zat x 2)) with
      | false =>
        rw [hble] at h
        exact False.elim h
      | true =>
        rw [hble] at h
        dsimp only at h
        rw [Bool.and_eq_true] at hble
        have hcs := Nat.le_of_ble_eq_true hble.1
        have hca := Nat.le_of_ble_eq_true hble.2
        have hok := ho
        unfold zOkC at hok
        rw [h98] at hok
        simp only [Bool.and_eq_true, decide_eq_true_eq] at hok
        obtain ⟨⟨⟨⟨⟨⟨⟨⟨⟨⟨⟨⟨⟨⟨⟨h1, h2⟩, h3⟩, h4⟩, h5⟩, h6⟩, h7⟩, h8⟩, h9⟩, h10⟩, h11⟩, h12⟩, h13⟩, h14⟩, h15⟩, h16⟩ := hok
        have h5a : zat x 4 = (zf (zat x 0)).2.1 := congrArg Prod.fst h5
        have h5b : zat x 5 = (zf (zat x 0)).2.2 := congrArg Prod.snd h5
        cases hz4 : Nat.beq (zat x 4) 0 with
        | true =>
          rw [hz4] at h
          dsimp only at h
          have h40 : zat x 4 = 0 := Nat.eq_of_beq_eq_true hz4
          have h50 : zat x 5 = 0 := by
            rw [h40] at h6
            simpa using h6
          have hf : k.1 + (zf (zat x 0)).2.1 ≤ (zf mi).2.1 ∧ k.2 + (zf (zat x 0)).2.2 ≤ (zf mi).2.2 := by rw [← h5a, ← h5b, h40, h50]; exact hk
          have hkk : k = (k.1 + (zf (zat x 0)).2.1, k.2 + (zf (zat x 0)).2.2) := by rw [← h5a, ← h5b, h40, h50]; rfl
          cases h99 : Nat.beq (zat x 6) 99 with
          | false =>
            rw [h99] at h
            dsimp only at h
            exact absurd h16 (by intro q; have q := q.1.1; rw [q] at h99; cases h99)
          | true =>
            rw [h99] at h
            dsimp only at h
            obtain ⟨a, hr⟩ := zrunS Z hjs ho h98 hd hH hS hst e3 hcs hca hga hf h
            exact zrun Z hL hg hgs hk hS hkk h4.symm hr (fun r σ' q => q)
        | false =>
          rw [hz4] at h
          dsimp only at h
          obtain ⟨hbd, hrc, h⟩ := h
          have hf : k.1 + (zf (zat x 0)).2.1 ≤ (zf mi).2.1 ∧ k.2 + (zf (zat x 0)).2.2 ≤ (zf mi).2.2 := by rw [← h5a, ← h5b]; exact hbd
          have h99 := h16.1.1
          rw [h99] at hrc
          rcases as with _ | ⟨w, as⟩
          · exact False.elim hrc
          rcases w with w | w | a | w
          · exact False.elim hrc
          · exact False.elim hrc
          rotate_left
          · exact False.elim hrc
          have hc99 : (zS σ a).1 = 99 := hrc.2.2
          have hc2 := zHp_at hH hrc.1 hrc.2.1
          unfold zcl at hc2
          rw [hc99] at hc2
          rcases hc2 with ⟨q, -⟩ | ⟨q, -⟩ <;> omega
theorem zs_invokevirtual {i : Nat} (Z : ZCt base b L xs D cx mi p s mid args meth c R) (hd : decode (zB mi) pc = .ok (.invokevirtual i, 3)) (ho : zOkI mi pc (.invokevirtual i) x = true) (hR : zRL base b L xs D cx mi s σ H jls lz st k locs)
    (h : znx (zf mi) 3 (.invokevirtual i) x pc lz st σ k (fun pc' ls' st' σ' k' => zSnd l base b L xs D cx mi pc' ls' st' σ' k' Q) Q (fun m' a σ' R => zSnd l base b L xs D cx m' 0 a [] σ' (0, 0) R)) : W p l e R s mid args below meth c H locs k.1 k.2 (zEd base b L xs D cx mi args below s Q) (F0 mid pc jls (st.map (zmv base b))) := by
  obtain ⟨hx, hb, hr, hml, hown, hts, hlk, hin, hKK, hRm, hlaw, hbs⟩ := id Z
  obtain ⟨hH, hL, hg, hs, hk, hS⟩ := hR
  have ho : zOkC mi i 0 x = true := ho
  have h : zcall (zf mi) x pc lz st σ k (fun pc' ls' st' σ' k' => zSnd l base b L xs D cx mi pc' ls' st' σ' k' Q) (fun m' a σ' R => zSnd l base b L xs D cx m' 0 a [] σ' (0, 0) R) := h
  have hjs : jls.size = zML mi := hL.2.1.1
  cases h98 : Nat.beq (zat x 6) 98 with
  | true =>
    unfold zcall at h
    rw [h98] at h
    dsimp only at h
    unfold zOkC at ho
    rw [h98] at ho
    simp at ho
  | false =>
    unfold zcall at h
    rw [h98] at h
    cases hpop : zpop (zat x 1) [] st with
    | none =>
      rw [hpop] at h
      exact False.elim h
    | some as =>
      obtain ⟨as, st'⟩ := as
      rw [hpop] at h
      dsimp only at h
      obtain ⟨r, e1, e2, e3⟩ := zpop_spec _ _ _ _ _ hpop
      rw [List.append_nil] at e1
      subst e1
      have hst : st.map (zmv base b) = (as.map (zmv base b)).reverse ++ st'.map (zmv base b) := by rw [e2, List.map_append, List.map_reverse]
      have hga : ∀ v ∈ as, zgd v := fun v hv => hs v (by rw [e2]; exact List.mem_append_left _ (List.mem_reverse.mpr hv))
      have hgs : ∀ v ∈ st', zgd v := fun v hv => hs v (by rw [e2]; exact List.mem_append_right _ hv)
      cases hble : (Nat.ble (zcats st') 8 && Nat.ble (zcats as) (zat x 2)) with
      | false =>
        rw [hble] at h
        exact False.elim h
      | true =>
        rw [hble] at h
        dsimp only at h
        rw [Bool.and_eq_true] at hble
        have hcs := Nat.le_of_ble_eq_true hble.1
        have hca := Nat.le_of_ble_eq_true hble.2
        have hok := ho
        unfold zOkC at hok
        rw [h98] at hok
        simp only [Bool.and_eq_true, decide_eq_true_eq] at hok
        obtain ⟨⟨⟨⟨⟨⟨⟨⟨⟨⟨⟨⟨⟨⟨⟨h1, h2⟩, h3⟩, h4⟩, h5⟩, h6⟩, h7⟩, h8⟩, h9⟩, h10⟩, h11⟩, h12⟩, h13⟩, h14⟩, h15⟩, h16⟩ := hok
        have h5a : zat x 4 = (zf (zat x 0)).2.1 := congrArg Prod.fst h5
        have h5b : zat x 5 = (zf (zat x 0)).2.2 := congrArg Prod.snd h5
        cases hz4 : Nat.beq (zat x 4) 0 with
        | true =>
          rw [hz4] at h
          dsimp only at h
          have h40 : zat x 4 = 0 := Nat.eq_of_beq_eq_true hz4
          have h50 : zat x 5 = 0 := by
            rw [h40] at h6
            simpa using h6
          have hf : k.1 + (zf (zat x 0)).2.1 ≤ (zf mi).2.1 ∧ k.2 + (zf (zat x 0)).2.2 ≤ (zf mi).2.2 := by rw [← h5a, ← h5b, h40, h50]; exact hk
          have hkk : k = (k.1 + (zf (zat x 0)).2.1, k.2 + (zf (zat x 0)).2.2) := by rw [← h5a, ← h5b, h40, h50]; rfl
          cases h99 : Nat.beq (zat x 6) 99 with
          | true =>
            exact absurd h16 (by intro q; have q := q.1.1.1.1; have q9 := Nat.eq_of_beq_eq_true h99; omega)
          | false =>
            rw [h99] at h
            dsimp only at h
            obtain ⟨hrc, h⟩ := h
            obtain ⟨a, hr⟩ := zrunV Z hjs ho h98 hd hH hS hst e3 hcs hca hga hrc hf h
            exact zrun Z hL hg hgs hk hS hkk h4.symm hr (fun r σ' q => q)
        | false =>
          rw [hz4] at h
          dsimp only at h
          obtain ⟨hbd, hrc, h⟩ := h
          have hf : k.1 + (zf (zat x 0)).2.1 ≤ (zf mi).2.1 ∧ k.2 + (zf (zat x 0)).2.2 ≤ (zf mi).2.2 := by rw [← h5a, ← h5b]; exact hbd
          obtain ⟨a, hr⟩ := zrunV Z hjs ho h98 hd hH hS hst e3 hcs hca hga hrc hf h
          exact zrun (k' := (k.1 + zat x 4, k.2 + zat x 5)) Z hL hg hgs hbd hS (by rw [h5a, h5b]) h4.symm hr (fun r σ' q => q)
theorem zs_invokespecial {i : Nat} (Z : ZCt base b L xs D cx mi p s mid args meth c R) (hd : decode (zB mi) pc = .ok (.invokespecial i, 3)) (ho : zOkI mi pc (.invokespecial i) x = true) (hR : zRL base b L xs D cx mi s σ H jls lz st k locs)
    (h : znx (zf mi) 3 (.invokespecial i) x pc lz st σ k (fun pc' ls' st' σ' k' => zSnd l base b L xs D cx mi pc' ls' st' σ' k' Q) Q (fun m' a σ' R => zSnd l base b L xs D cx m' 0 a [] σ' (0, 0) R)) : W p l e R s mid args below meth c H locs k.1 k.2 (zEd base b L xs D cx mi args below s Q) (F0 mid pc jls (st.map (zmv base b))) := by
  obtain ⟨hx, hb, hr, hml, hown, hts, hlk, hin, hKK, hRm, hlaw, hbs⟩ := id Z
  obtain ⟨hH, hL, hg, hs, hk, hS⟩ := hR
  have ho : zOkC mi i 1 x = true := ho
  have h : zcall (zf mi) x pc lz st σ k (fun pc' ls' st' σ' k' => zSnd l base b L xs D cx mi pc' ls' st' σ' k' Q) (fun m' a σ' R => zSnd l base b L xs D cx m' 0 a [] σ' (0, 0) R) := h
  have hjs : jls.size = zML mi := hL.2.1.1
  cases h98 : Nat.beq (zat x 6) 98 with
  | true =>
    unfold zcall at h
    rw [h98] at h
    dsimp only at h
    unfold zOkC at ho
    rw [h98] at ho
    simp only [Bool.and_eq_true, decide_eq_true_eq] at ho
    obtain ⟨⟨⟨-, hw⟩, hfr⟩, hlo⟩ := ho
    rcases st with _ | ⟨w, st⟩
    · exact False.elim h
    rcases w with w | w | a | w
    · exact False.elim h
    · exact False.elim h
    rotate_left
    · exact False.elim h
    dsimp only at h
    cases hcs : Nat.ble (zcats st) 8 with
    | false =>
      rw [hcs] at h
      exact False.elim h
    | true =>
      rw [hcs] at h
      obtain ⟨h2, h⟩ := h
      have hcs := Nat.le_of_ble_eq_true hcs
      show W p l e R s mid args below meth c H locs k.1 k.2 _ (F0 mid pc jls (va_rf (zra base b a) :: st.map (zmv base b)))
      rw [zra_ref h2]
      subst hRm
      refine W.objInit hx hb hown (hts _ (zw_in hw)) (hts _ (zw_in zob_inst)) (hts _ (zw_in zob_code)) rfl (by rw [hml]; exact hjs) rfl hd hfr (by
        have q1 := lv_room (m := mid) (pc := pc) (ls := jls) (rest := st.map (zmv base b)) (st := st.map (zmv base b)) (by rw [zcats_mv]; exact hcs)
        show 2 * 0 + _ + 12 ≤ (zRm mi).2
        have q2 : ((st.map (zmv base b)).map fun v => v.category).sum ≤ 8 := by rw [zcats_mv]; exact hcs
        omega) ?_
      exact h p e s mid args below meth c _ _ _ _ Z ⟨hH, hL, hg, zst_t hs, hk, hS⟩
  | false =>
    unfold zcall at h
    rw [h98] at h
    cases hpop : zpop (zat x 1) [] st with
    | none =>
      rw [hpop] at h
      exact False.elim h
    | some as =>
      obtain ⟨as, st'⟩ := as
      rw [hpop] at h
      dsimp only at h
      obtain ⟨r, e1, e2, e3⟩ := zpop_spec _ _ _ _ _ hpop
      rw [List.append_nil] at e1
      subst e1
      have hst : st.map (zmv base b) = (as.map (zmv base b)).reverse ++ st'.map (zmv base b) := by rw [e2, List.map_append, List.map_reverse]
      have hga : ∀ v ∈ as, zgd v := fun v hv => hs v (by rw [e2]; exact List.mem_append_left _ (List.mem_reverse.mpr hv))
      have hgs : ∀ v ∈ st', zgd v := fun v hv => hs v (by rw [e2]; exact List.mem_append_right _ hv)
      cases hble : (Nat.ble (zcats st') 8 && Nat.ble (zcats as) (zat x 2)) with
      | false =>
        rw [hble] at h
        exact False.elim h
      | true =>
        rw [hble] at h
        dsimp only at h
        rw [Bool.and_eq_true] at hble
        have hcs := Nat.le_of_ble_eq_true hble.1
        have hca := Nat.le_of_ble_eq_true hble.2
        have hok := ho
        unfold zOkC at hok
        rw [h98] at hok
        simp only [Bool.and_eq_true, decide_eq_true_eq] at hok
        obtain ⟨⟨⟨⟨⟨⟨⟨⟨⟨⟨⟨⟨⟨⟨⟨h1, h2⟩, h3⟩, h4⟩, h5⟩, h6⟩, h7⟩, h8⟩, h9⟩, h10⟩, h11⟩, h12⟩, h13⟩, h14⟩, h15⟩, h16⟩ := hok
        have h5a : zat x 4 = (zf (zat x 0)).2.1 := congrArg Prod.fst h5
        have h5b : zat x 5 = (zf (zat x 0)).2.2 := congrArg Prod.snd h5
        cases hz4 : Nat.beq (zat x 4) 0 with
        | true =>
          rw [hz4] at h
          dsimp only at h
          have h40 : zat x 4 = 0 := Nat.eq_of_beq_eq_true hz4
          have h50 : zat x 5 = 0 := by
            rw [h40] at h6
            simpa using h6
          have hf : k.1 + (zf (zat x 0)).2.1 ≤ (zf mi).2.1 ∧ k.2 + (zf (zat x 0)).2.2 ≤ (zf mi).2.2 := by rw [← h5a, ← h5b, h40, h50]; exact hk
          have hkk : k = (k.1 + (zf (zat x 0)).2.1, k.2 + (zf (zat x 0)).2.2) := by rw [← h5a, ← h5b, h40, h50]; rfl
          cases h99 : Nat.beq (zat x 6) 99 with
          | true =>
            exact absurd h16 (by intro q; have q := q.1.1.1.1.1; have q9 := Nat.eq_of_beq_eq_true h99; omega)
          | false =>
            rw [h99] at h
            dsimp only at h
            obtain ⟨hrc, h⟩ := h
            obtain ⟨a, hr⟩ := zrunI Z hjs ho h98 hd hH hS hst e3 hcs hca hga hrc hf h
            exact zrun Z hL hg hgs hk hS hkk h4.symm hr (fun r σ' q => q)
        | false =>
          rw [hz4] at h
          dsimp only at h
          obtain ⟨hbd, hrc, h⟩ := h
          have hf : k.1 + (zf (zat x 0)).2.1 ≤ (zf mi).2.1 ∧ k.2 + (zf (zat x 0)).2.2 ≤ (zf mi).2.2 := by rw [← h5a, ← h5b]; exact hbd
          obtain ⟨a, hr⟩ := zrunI Z hjs ho h98 hd hH hS hst e3 hcs hca hga hrc hf h
          exact zrun (k' := (k.1 + zat x 4, k.2 + zat x 5)) Z hL hg hgs hbd hS (by rw [h5a, h5b]) h4.symm hr (fun r σ' q => q)
end ZS1
