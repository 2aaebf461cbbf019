/-! calls -/
def zisn (w : Cond) : Bool := match w with
  | .fieldLinkNest _ _ _ _ _ _ => true
  | .methodLinkNest _ _ _ _ => true
  | _ => false
theorem zNest_k : zNest.all zisn = true := by decide +kernel
theorem zAOA_moved {t : FieldType} {u U : State} (hvm : u.vm.Alike U.vm) (h : va_AOA t u) : va_AOA t U := by
  have h1 : (Cond.arrayOver (.array t)).before #[] (u.setVm U.vm) = true := Cond.overAtom_setVm hvm _ rfl h
  first
    | exact va_tabs (c := .arrayOver (.array t)) rfl (rfl : (u.setVm U.vm).vm = U.vm) h1
    | exact h1
theorem zKK_moved {D : va_G} {cx : Nat → ClassId} {s U : State} (hW : s.WarmedH U.vm) (h : zKK D cx s) : zKK D cx U := by
  obtain ⟨h1, h2, h3, h4, h5, h6⟩ := h
  refine ⟨va_K.moved hW.alike h1, fun t a b => ⟨arrOfT_moved hW.alike (h2 t a b).1, (h2 t a b).2.moved hW.alike⟩, fun w hw => ?_, h4.moved hW.alike, h5.moved hW.alike, zAOA_moved hW.alike h6⟩
  have hk := List.all_eq_true.mp zNest_k w hw
  have hz := h3 w hw
  cases w <;> first | exact va_Nw.warmF hW hz | exact va_Nw.warmM hW hz | cases hk
theorem zKK_same {D : va_G} {cx : Nat → ClassId} {s U : State} (hv : s.vm = U.vm) (h : zKK D cx s) : zKK D cx U := by
  have ha : s.vm.Alike U.vm := by rw [hv]; exact Vm.Alike.refl _
  obtain ⟨h1, h2, h3, h4, h5, h6⟩ := h
  refine ⟨va_K.moved ha h1, fun t a b => ⟨arrOfT_moved ha (h2 t a b).1, (h2 t a b).2.moved ha⟩, fun w hw => ?_, h4.moved ha, h5.moved ha, zAOA_moved ha h6⟩
  have hk := List.all_eq_true.mp zNest_k w hw
  have hz := h3 w hw
  cases w <;> first | exact va_Nw.same rfl hv hz | cases hk
theorem zpop_spec : ∀ (n : Nat) (acc st args st' : List PV), zpop n acc st = some (args, st') → ∃ r : List PV, args = r ++ acc ∧ st = r.reverse ++ st' ∧ r.length = n
  | 0, acc, st, args, st', h => by
    cases h
    exact ⟨[], rfl, rfl, rfl⟩
  | n + 1, acc, [], args, st', h => by cases h
  | n + 1, acc, v :: st, args, st', h => by
    obtain ⟨r, h1, h2, h3⟩ := zpop_spec n (v :: acc) st args st' h
    refine ⟨r ++ [v], by rw [h1]; simp, ?_, by simp [h3]⟩
    rw [List.reverse_append, List.reverse_singleton, List.singleton_append, List.cons_append, ← h2]
theorem zcats_mv {base b : Nat} : ∀ st : List PV, ((st.map (zmv base b)).map fun v => v.category).sum = zcats st
  | [] => rfl
  | v :: st => by
    rw [List.map_cons, List.map_cons, List.sum_cons, zcats_mv st, zcat_mv]
    rfl
theorem zsl_len {base b : Nat} : ∀ args : List PV, (lg_sl (args.map (zmv base b))).length = zcats args
  | [] => rfl
  | v :: args => by
    have ih := zsl_len (base := base) (b := b) args
    have e1 : lg_sl ((v :: args).map (zmv base b)) = (if (zmv base b v).category = 2 then [Slot.val (zmv base b v), .second] else [.val (zmv base b v)]) ++ lg_sl (args.map (zmv base b)) := rfl
    rw [e1, List.length_append, ih, zcat_mv]
    show _ = zcat v + zcats args
    unfold zcat
    cases zisl v <;> rfl
theorem zspread_at {base b : Nat} : ∀ (args : List PV) (i j : Nat), zgd (znth (zspread args) i) → (j + i, zmv base b (znth (zspread args) i)) ∈ lv_args j (args.map (zmv base b))
  | [], i, j, h => h.elim
  | v :: args, i, j, h => by
    rw [List.map_cons]
    show _ ∈ (j, zmv base b v) :: lv_args _ _
    rw [zcat_mv]
    unfold zspread at h ⊢
    cases hv : zisl v with
    | true =>
      rw [hv] at h
      have e2 : zcat v = 2 := by unfold zcat; rw [hv]
      rw [e2, if_pos rfl]
      rcases i with _ | _ | i
      · exact List.mem_cons_self
      · exact h.elim
      · have := zspread_at (base := base) (b := b) args i (j + 2) h
        rw [show j + (i + 2) = j + 2 + i by omega]
        exact List.mem_cons_of_mem _ this
    | false =>
      rw [hv] at h
      have e2 : zcat v = 1 := by unfold zcat; rw [hv]
      rw [e2, if_neg (by decide)]
      rcases i with _ | i
      · exact List.mem_cons_self
      · have := zspread_at (base := base) (b := b) args i (j + 1) h
        rw [show j + (i + 1) = j + 1 + i by omega]
        exact List.mem_cons_of_mem _ this
theorem zfill_len : ∀ (n : Nat) (l : List PV), (zfill n l).length = n
  | 0, _ => rfl
  | n + 1, [] => by show (zfill n []).length + 1 = _; rw [zfill_len n]
  | n + 1, v :: l => by show (zfill n l).length + 1 = _; rw [zfill_len n]
theorem zfill_at : ∀ (n : Nat) (l : List PV) (i : Nat), zgd (znth (zfill n l) i) → znth (zfill n l) i = znth l i
  | 0, _, _, h => h.elim
  | n + 1, [], 0, h => rfl
  | n + 1, [], i + 1, h => zfill_at n [] i h
  | n + 1, v :: l, 0, h => rfl
  | n + 1, v :: l, i + 1, h => zfill_at n l i h
theorem zfill_gl : ∀ (n : Nat) (l : List PV), (∀ v ∈ l, zgl v) → ∀ v ∈ zfill n l, zgl v
  | 0, _, _, v, h => by cases h
  | n + 1, [], hl, v, h => by
    rcases List.mem_cons.mp h with e | e
    · exact Or.inl e
    · exact zfill_gl n [] hl v e
  | n + 1, w :: l, hl, v, h => by
    rcases List.mem_cons.mp h with e | e
    · rw [e]; exact hl w List.mem_cons_self
    · exact zfill_gl n l (fun v hv => hl v (List.mem_cons_of_mem _ hv)) v e
theorem zspread_gl : ∀ (l : List PV), (∀ v ∈ l, zgd v) → ∀ v ∈ zspread l, zgl v
  | [], _, v, h => by cases h
  | w :: l, hl, v, h => by
    unfold zspread at h
    split at h
    · rcases List.mem_cons.mp h with e | e
      · rw [e]; exact Or.inr (hl w List.mem_cons_self)
      · rcases List.mem_cons.mp e with e | e
        · exact Or.inl e
        · exact zspread_gl l (fun v hv => hl v (List.mem_cons_of_mem _ hv)) v e
    · rcases List.mem_cons.mp h with e | e
      · rw [e]; exact Or.inr (hl w List.mem_cons_self)
      · exact zspread_gl l (fun v hv => hl v (List.mem_cons_of_mem _ hv)) v e
theorem zentry {base b n : Nat} {args : List PV} (hn : zcats args ≤ n) : zLR base b ((lg_sl (args.map (zmv base b)) ++ List.replicate (n - (lg_sl (args.map (zmv base b))).length) Slot.unset).toArray) n (zlocs n args) := by
  have h := lv_entry (args.map (zmv base b)) (n := n) (by rw [zsl_len]; exact hn)
  refine ⟨zfill_len _ _, ⟨h.1, h.2.1, fun q hq => by cases hq⟩, fun i hi => ?_⟩
  unfold zlocs at hi ⊢
  have e := zfill_at n (zspread args) i hi
  rw [e] at hi ⊢
  have := zspread_at (base := base) (b := b) args i 0 hi
  rw [Nat.zero_add] at this
  exact h.2.2 _ this
section ZCALL
variable {l : Launch} {base b L : Nat} {xs : Nat → Int32} {D : va_G} {cx : Nat → ClassId}
def zPc (base b L : Nat) (xs : Nat → Int32) (D : va_G) (cx : Nat → ClassId) (args : List PV) (σ : ZM) : Array Value → State → Prop := va_Pc (args.map (zmv base b)) (fun U => zHp base b L xs D cx σ U.heap ∧ zKK D cx U ∧ base ≤ U.heap.size)
def zWs (mi : Nat) : List Cond := Cond.code (zNm mi) (zB mi) (zML mi) (zRt mi) :: zW
/-- a pure run is a contract -/
theorem zMet {mi : Nat} {args : List PV} {σ : ZM} {Q : ZQ} (hb : b < base) (hm : mi ≠ 0) (hp : plainFor (zNm mi) = true) (hc : (zNm mi).cls = zOw mi) (hin : zIn mi = true → (zNm mi).name = "<init>") (hn : zcats args ≤ zML mi) (hg : ∀ v ∈ args, zgd v) (h : zSnd l base b L xs D cx mi 0 (zlocs (zML mi) args) [] σ (0, 0) Q) :
    Met l (zNm mi) (zWs mi) (zRoom mi) (zPc base b L xs D cx args σ) (zQc base b L xs D cx mi Q) (zf mi).2.1 (zf mi).2.2 (fun q => base ≤ q) := by
  refine zq_ofW hp rfl ?_
  intro p e s m args' below meth c s₁ B hml hv
  obtain ⟨rfl, hH, hK, hbs⟩ := hv
  have hts := atoms_spec (ws := zWs mi) B.pre
  have hown : s.vm.findClass (zNm mi).cls = some m.cls := findClass_of_methodNamed B.named
  rw [lg_entry_eq]
  have key := h p e s m (args.map (zmv base b)).toArray below meth c (zRoom mi) _ s.heap [] ⟨B.exec, B.bytes, B.returns, hml, by rw [← hc]; exact hown, fun w hw => hts w (List.mem_cons_of_mem _ hw), B.notSynchronized, fun q => ((name_of_methodNamed B.named B.method).1).trans (hin q), hK, rfl, fun q => absurd q hm, hbs, hb⟩ ⟨hH, zentry hn, zfill_gl _ _ (zspread_gl _ hg), (fun v hv => by cases hv), ⟨Nat.zero_le _, Nat.zero_le _⟩, va_S.rf⟩
  have e1 : zEd base b L xs D cx mi (args.map (zmv base b)).toArray below s Q = MQ below (zQc base b L xs D cx mi Q) (args.map (zmv base b)).toArray s (zf mi).2.1 (zf mi).2.2 (fun q => base ≤ q) := by
    funext t
    unfold zEd
    rw [if_neg hm]
  rw [e1] at key
  exact key
theorem zPc_blind {args : List PV} {σ : ZM} : FrameBlind (zPc base b L xs D cx args σ) := by
  intro a U g mk h
  obtain ⟨h1, h2, h3, h4⟩ := h
  exact ⟨h1, h2, zKK_same (s := U) rfl h3, h4⟩
/-- behind a call -/
theorem zrun {mi m' pc rk : Nat} {lz st' : List PV} {k k' : Nat × Nat} {Q R' : ZQ} {p : Program} {e : Env} {s : State} {mid : MethodId} {args : Array Value} {below : List Frame} {meth : Method} {c : Code} {R : Room} {jls : Array Slot} {H : Heap} {locs : List Loc} {a : Array Value} {st0 : List Value}
    (Z : ZCt base b L xs D cx mi p s mid args meth c R) (hL : zLR base b jls (zML mi) lz) (hg : ∀ v ∈ lz, zgl v) (hs : ∀ v ∈ st', zgd v) (hk : k'.1 ≤ (zf mi).2.1 ∧ k'.2 ≤ (zf mi).2.2) (hS : va_S (fun q => base ≤ q) s.heap H locs) (hkk : k' = (k.1 + (zf m').2.1, k.2 + (zf m').2.2)) (hrk : (zf m').1 = rk)
    (hr : va_Run p l e R s mid args below meth c H locs k.1 k.2 (zf m').2.1 (zf m').2.2 (F0 mid pc jls st0) (st'.map (zmv base b)) (zQc base b L xs D cx m' R' a) (fun q => base ≤ q))
    (hR : ∀ r σ', R' r σ' → zrk rk r (fun vs => zSnd l base b L xs D cx mi (pc + 3) lz (vs ++ st') σ' k' Q)) : W p l e R s mid args below meth c H locs k.1 k.2 (zEd base b L xs D cx mi args below s Q) (F0 mid pc jls st0) := by
  intro T hT X
  obtain ⟨v, st₀, t, T', LL, h0, X', hLL, e1, e2, ⟨⟨r, σ', ho, hkd, hq, hH⟩, hF⟩, go⟩ := hr T hT X
  have hv : v = zrv base b (zf m').1 r := by cases ho; rfl
  have hz := hR r σ' hq
  rw [hrk] at hv hkd
  have hfin : ∃ vs : List PV, v.toList = vs.map (zmv base b) ∧ (∀ w ∈ vs, zgd w) ∧ zSnd l base b L xs D cx mi (pc + 3) lz (vs ++ st') σ' k' Q := by
    rcases rk with _ | _ | _ | _ | _ | rk
    · exact ⟨[], by rw [hv]; rfl, (fun w hw => by cases hw), hz⟩
    · obtain ⟨y, rfl, hy⟩ := hkd
      exact ⟨[zi y], by rw [hv]; rfl, (fun w hw => by rw [List.mem_singleton.mp hw]; exact hy), hz⟩
    · obtain ⟨y, rfl⟩ := hkd
      exact ⟨[zl y], by rw [hv]; rfl, (fun w hw => by rw [List.mem_singleton.mp hw]; exact trivial), hz⟩
    · obtain ⟨y, rfl⟩ := hkd
      exact ⟨[zr y], by rw [hv]; rfl, (fun w hw => by rw [List.mem_singleton.mp hw]; exact trivial), hz⟩
    · obtain ⟨y, rfl, hy⟩ := hkd
      exact ⟨[zi y], by rw [hv]; rfl, (fun w hw => by rw [List.mem_singleton.mp hw]; exact hy), hz⟩
    · exact hkd.elim
  obtain ⟨vs, hvs, hgs, hz⟩ := hfin
  have hS' : va_S (fun q => base ≤ q) s.heap T'.heap (locs ++ LL) := by
    refine ⟨by have q1 := hS.1; have q2 := hF.1; rw [h0] at q2; rw [e1]; omega, fun q q1 q2 => ?_, fun q hq => ?_⟩
    · rw [e1, hF.2 q (by rw [h0]; exact Nat.lt_of_lt_of_le q1 hS.1) q2, h0]
      exact hS.2.1 q q1 q2
    · rcases List.mem_append.mp hq with h | h
      · exact hS.2.2 q h
      · exact hLL q h
  have key := hz p e s mid args below meth c R jls T'.heap (locs ++ LL) Z ⟨by rw [e1]; exact hH, hL, hg, (fun w hw => by
    rcases List.mem_append.mp hw with h | h
    · exact hgs w h
    · exact hs w h), hk, hS'⟩
  rw [hkk] at key
  obtain ⟨t2, a1, b1⟩ := key T' rfl X'
  refine ⟨t2, go t2 ?_, b1⟩
  rw [hvs, ← List.map_append]
  exact a1
end ZCALL
