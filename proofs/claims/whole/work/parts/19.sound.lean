/-! THE PURE MACHINE IS SOUND -/
theorem zfind_mem : ∀ (c : ZCode) (pc : Nat) (e : Nat × Instr × List Nat), zfind c pc = some e → (pc, e) ∈ c
  | [], _, _, h => by cases h
  | (q, e') :: t, pc, e, h => by
    unfold zfind at h
    split at h
    · rename_i hq
      cases h
      rw [Nat.eq_of_beq_eq_true hq]
      exact List.mem_cons_self
    · exact List.mem_cons_of_mem _ (zfind_mem t pc e h)
theorem zSnd_mono {l : Launch} {base b L : Nat} {xs : Nat → Int32} {D : va_G} {cx : Nat → ClassId} : zmono (zSnd l base b L xs D cx) := by
  intro m pc ls st σ k Q Q' hQ h p e s mid args below meth c R jls H locs Z hR T hT X
  obtain ⟨t, a1, b1⟩ := h p e s mid args below meth c R jls H locs Z hR T hT X
  refine ⟨t, a1, ?_⟩
  unfold zEd at b1 ⊢
  split
  · rw [if_pos (by assumption)] at b1
    exact b1
  · rw [if_neg (by assumption)] at b1
    obtain ⟨o, c1, c2, ⟨⟨r, σ', d1, d2, d3, d4⟩, d5⟩, c4⟩ := b1
    exact ⟨o, c1, c2, ⟨⟨r, σ', d1, d2, hQ r σ' d3, d4⟩, d5⟩, c4⟩
set_option maxHeartbeats 4000000 in
theorem zclose {l : Launch} {base b L : Nat} {xs : Nat → Int32} {D : va_G} {cx : Nat → ClassId} : ∀ m pc ls st σ k Q, zstep zc zf (zSnd l base b L xs D cx) m pc ls st σ k Q → zSnd l base b L xs D cx m pc ls st σ k Q := by
  intro mi pc lz st σ k Q h p e s mid args below meth c R jls H locs Z hR
  unfold zstep at h
  cases hf : zfind (zc mi) pc with
  | none =>
    rw [hf] at h
    exact False.elim h
  | some en =>
    rw [hf] at h
    have hok := List.all_eq_true.mp (zok_all mi) _ (zfind_mem _ _ _ hf)
    obtain ⟨len, i, x⟩ := en
    unfold zOkE at hok
    simp only [Bool.and_eq_true, Bool.or_eq_true, decide_eq_true_eq] at hok
    obtain ⟨⟨hd, hl⟩, ho⟩ := hok
    dsimp only at h
    cases i with
    | iconst n =>
      have hl : len = 1 := by simp [zLen] at hl; omega
      subst hl
      exact zs_iconst Z hd ho hR h
    | bipush n =>
      have hl : len = 2 := by simp [zLen] at hl; omega
      subst hl
      exact zs_bipush Z hd ho hR h
    | sipush n =>
      have hl : len = 3 := by simp [zLen] at hl; omega
      subst hl
      exact zs_sipush Z hd ho hR h
    | ldc i =>
      have hl : len = 2 := by simp [zLen] at hl; omega
      subst hl
      exact zs_ldc Z hd ho hR h
    | lconst n =>
      have hl : len = 1 := by simp [zLen] at hl; omega
      subst hl
      exact zs_lconst Z hd ho hR h
    | ldc2_w i =>
      have hl : len = 3 := by simp [zLen] at hl; omega
      subst hl
      exact zs_ldc2_w Z hd ho hR h
    | iload_n n =>
      have hl : len = 1 := by simp [zLen] at hl; omega
      subst hl
      exact zs_iload_n Z hd ho hR h
    | iload n =>
      have hl : len = 2 := by simp [zLen] at hl; omega
      subst hl
      exact zs_iload Z hd ho hR h
    | lload_n n =>
      have hl : len = 1 := by simp [zLen] at hl; omega
      subst hl
      exact zs_lload_n Z hd ho hR h
    | lload n =>
      have hl : len = 2 := by simp [zLen] at hl; omega
      subst hl
      exact zs_lload Z hd ho hR h
    | aload_n n =>
      have hl : len = 1 := by simp [zLen] at hl; omega
      subst hl
      exact zs_aload_n Z hd ho hR h
    | aload n =>
      have hl : len = 2 := by simp [zLen] at hl; omega
      subst hl
      exact zs_aload Z hd ho hR h
    | istore_n n =>
      have hl : len = 1 := by simp [zLen] at hl; omega
      subst hl
      exact zs_istore_n Z hd ho hR h
    | istore n =>
      have hl : len = 2 := by simp [zLen] at hl; omega
      subst hl
      exact zs_istore Z hd ho hR h
    | lstore_n n =>
      have hl : len = 1 := by simp [zLen] at hl; omega
      subst hl
      exact zs_lstore_n Z hd ho hR h
    | lstore n =>
      have hl : len = 2 := by simp [zLen] at hl; omega
      subst hl
      exact zs_lstore Z hd ho hR h
    | astore_n n =>
      have hl : len = 1 := by simp [zLen] at hl; omega
      subst hl
      exact zs_astore_n Z hd ho hR h
    | astore n =>
      have hl : len = 2 := by simp [zLen] at hl; omega
      subst hl
      exact zs_astore Z hd ho hR h
    | iinc n d =>
      have hl : len = 3 := by simp [zLen] at hl; omega
      subst hl
      exact zs_iinc Z hd ho hR h
    | iadd  =>
      have hl : len = 1 := by simp [zLen] at hl; omega
      subst hl
      exact zs_iadd Z hd ho hR h
    | isub  =>
      have hl : len = 1 := by simp [zLen] at hl; omega
      subst hl
      exact zs_isub Z hd ho hR h
    | imul  =>
      have hl : len = 1 := by simp [zLen] at hl; omega
      subst hl
      exact zs_imul Z hd ho hR h
    | idiv  =>
      have hl : len = 1 := by simp [zLen] at hl; omega
      subst hl
      exact zs_idiv Z hd ho hR h
    | irem  =>
      have hl : len = 1 := by simp [zLen] at hl; omega
      subst hl
      exact zs_irem Z hd ho hR h
    | ineg  =>
      have hl : len = 1 := by simp [zLen] at hl; omega
      subst hl
      exact zs_ineg Z hd ho hR h
    | iand  =>
      have hl : len = 1 := by simp [zLen] at hl; omega
      subst hl
      exact zs_iand Z hd ho hR h
    | ixor  =>
      have hl : len = 1 := by simp [zLen] at hl; omega
      subst hl
      exact zs_ixor Z hd ho hR h
    | ishr  =>
      have hl : len = 1 := by simp [zLen] at hl; omega
      subst hl
      exact zs_ishr Z hd ho hR h
    | ladd  =>
      have hl : len = 1 := by simp [zLen] at hl; omega
      subst hl
      exact zs_ladd Z hd ho hR h
    | lsub  =>
      have hl : len = 1 := by simp [zLen] at hl; omega
      subst hl
      exact zs_lsub Z hd ho hR h
    | lmul  =>
      have hl : len = 1 := by simp [zLen] at hl; omega
      subst hl
      exact zs_lmul Z hd ho hR h
    | land  =>
      have hl : len = 1 := by simp [zLen] at hl; omega
      subst hl
      exact zs_land Z hd ho hR h
    | lor  =>
      have hl : len = 1 := by simp [zLen] at hl; omega
      subst hl
      exact zs_lor Z hd ho hR h
    | ldiv  =>
      have hl : len = 1 := by simp [zLen] at hl; omega
      subst hl
      exact zs_ldiv Z hd ho hR h
    | lneg  =>
      have hl : len = 1 := by simp [zLen] at hl; omega
      subst hl
      exact zs_lneg Z hd ho hR h
    | lshl  =>
      have hl : len = 1 := by simp [zLen] at hl; omega
      subst hl
      exact zs_lshl Z hd ho hR h
    | i2l  =>
      have hl : len = 1 := by simp [zLen] at hl; omega
      subst hl
      exact zs_i2l Z hd ho hR h
    | l2i  =>
      have hl : len = 1 := by simp [zLen] at hl; omega
      subst hl
      exact zs_l2i Z hd ho hR h
    | dup  =>
      have hl : len = 1 := by simp [zLen] at hl; omega
      subst hl
      exact zs_dup Z hd ho hR h
    | pop  =>
      have hl : len = 1 := by simp [zLen] at hl; omega
      subst hl
      exact zs_pop Z hd ho hR h
    | dup2  =>
      have hl : len = 1 := by simp [zLen] at hl; omega
      subst hl
      exact zs_dup2 Z hd ho hR h
    | lcmp  =>
      have hl : len = 1 := by simp [zLen] at hl; omega
      subst hl
      exact zs_lcmp Z hd ho hR h
    | goto off =>
      have hl : len = 3 := by simp [zLen] at hl; omega
      subst hl
      exact zs_goto Z hd ho hR h
    | if_icmp cn off =>
      have hl : len = 3 := by simp [zLen] at hl; omega
      subst hl
      exact zs_if_icmp Z hd ho hR h
    | ifCond cn off =>
      have hl : len = 3 := by simp [zLen] at hl; omega
      subst hl
      exact zs_ifCond Z hd ho hR h
    | if_acmp cn off =>
      have hl : len = 3 := by simp [zLen] at hl; omega
      subst hl
      exact zs_if_acmp Z hd ho hR h
    | tableswitch d lo hi offs => exact zs_tableswitch Z hd ho hR h
    | getfield i =>
      have hl : len = 3 := by simp [zLen] at hl; omega
      subst hl
      exact zs_getfield Z hd ho hR h
    | putfield i =>
      have hl : len = 3 := by simp [zLen] at hl; omega
      subst hl
      exact zs_putfield Z hd ho hR h
    | laload  =>
      have hl : len = 1 := by simp [zLen] at hl; omega
      subst hl
      exact zs_laload Z hd ho hR h
    | baload  =>
      have hl : len = 1 := by simp [zLen] at hl; omega
      subst hl
      exact zs_baload Z hd ho hR h
    | iaload  =>
      have hl : len = 1 := by simp [zLen] at hl; omega
      subst hl
      exact zs_iaload Z hd ho hR h
    | aaload  =>
      have hl : len = 1 := by simp [zLen] at hl; omega
      subst hl
      exact zs_aaload Z hd ho hR h
    | iastore  =>
      have hl : len = 1 := by simp [zLen] at hl; omega
      subst hl
      exact zs_iastore Z hd ho hR h
    | lastore  =>
      have hl : len = 1 := by simp [zLen] at hl; omega
      subst hl
      exact zs_lastore Z hd ho hR h
    | bastore  =>
      have hl : len = 1 := by simp [zLen] at hl; omega
      subst hl
      exact zs_bastore Z hd ho hR h
    | aastore  =>
      have hl : len = 1 := by simp [zLen] at hl; omega
      subst hl
      exact zs_aastore Z hd ho hR h
    | arraylength  =>
      have hl : len = 1 := by simp [zLen] at hl; omega
      subst hl
      exact zs_arraylength Z hd ho hR h
    | lookupswitch d ps => exact zs_lookupswitch Z hd ho hR h
    | ireturn  =>
      have hl : len = 1 := by simp [zLen] at hl; omega
      subst hl
      exact zs_ireturn Z hd ho hR h
    | lreturn  =>
      have hl : len = 1 := by simp [zLen] at hl; omega
      subst hl
      exact zs_lreturn Z hd ho hR h
    | areturn  =>
      have hl : len = 1 := by simp [zLen] at hl; omega
      subst hl
      exact zs_areturn Z hd ho hR h
    | return_  =>
      have hl : len = 1 := by simp [zLen] at hl; omega
      subst hl
      exact zs_return_ Z hd ho hR h
    | new i =>
      have hl : len = 3 := by simp [zLen] at hl; omega
      subst hl
      exact zs_new Z hd ho hR h
    | newarray t =>
      have hl : len = 2 := by simp [zLen] at hl; omega
      subst hl
      exact zs_newarray Z hd ho hR h
    | anewarray i =>
      have hl : len = 3 := by simp [zLen] at hl; omega
      subst hl
      exact zs_anewarray Z hd ho hR h
    | multianewarray i dd =>
      have hl : len = 4 := by simp [zLen] at hl; omega
      subst hl
      exact zs_multianewarray Z hd ho hR h
    | invokestatic i =>
      have hl : len = 3 := by simp [zLen] at hl; omega
      subst hl
      exact zs_invokestatic Z hd ho hR h
    | invokevirtual i =>
      have hl : len = 3 := by simp [zLen] at hl; omega
      subst hl
      exact zs_invokevirtual Z hd ho hR h
    | invokespecial i =>
      have hl : len = 3 := by simp [zLen] at hl; omega
      subst hl
      exact zs_invokespecial Z hd ho hR h
    | _ => exact False.elim h
theorem z_sound {l : Launch} {base b L : Nat} {xs : Nat → Int32} {D : va_G} {cx : Nat → ClassId} {m pc : Nat} {ls st : List PV} {σ : ZM} {k : Nat × Nat} {Q : ZQ} (h : WP m pc ls st σ k Q) : zSnd l base b L xs D cx m pc ls st σ k Q := h _ zSnd_mono zclose
/-- the memory before the law: the script alone -/
def zm0 (L : Nat) (xs : Nat → Int32) : ZM := (2, (fun _ => (110, L)), (fun a j => if a = 1 ∧ 0 ≤ j ∧ j < (L : Int) then (xs j.toNat).toInt else 0), (fun _ _ => 0), (fun _ _ => 0))
def zwI : List Nat := [1227, 1100, 1077, 2001, 1126, 1206, 1030, 1116, 1036, 1083, 1016, 4183]
theorem zin_w : ((List.range 12).all (fun ci => zwd (zwI.getD ci 0) (.instantiable (zqc ci).1 (zqc ci).2.2))) = true := by decide +kernel
theorem zao9 : lw_tbl[117]? = some (.arrayOver (.object RX9)) := by decide +kernel
theorem zao4 : lw_tbl[119]? = some (.arrayOver (.object RX4)) := by decide +kernel
theorem zaoJ : lw_tbl[121]? = some (.arrayOver (.array .long)) := by decide +kernel
theorem zNest_t : zNest.all (fun w => decide (w ∈ lw_tbl)) = true := by decide +kernel
theorem zKK_start {s : State} {args : Array Value} (hts : ∀ w ∈ lw_tbl, w.before args s = true) : ∃ (D : va_G) (cx : Nat → ClassId), zKK D cx s := by
  have htW : ∀ w ∈ zW, w.before args s = true := fun w hw => hts w (List.mem_filter.mp hw).1
  have hcl : ∀ ci, ∃ q : ClassId × (Nat → Nat), ci < 12 → u_Kn s (zqc ci).1 (zqc ci).2.1 (zqc ci).2.2 q.1 q.2 := by
    intro ci
    by_cases h : ci < 12
    · obtain ⟨c, iS, hk⟩ := u_known htW (zcls_in h) (htW _ (zw_in (List.all_eq_true.mp zin_w ci (List.mem_range.mpr h))))
      exact ⟨(c, iS), fun _ => hk⟩
    · exact ⟨(0, fun _ => 0), fun q => absurd q h⟩
  obtain ⟨cI, kI, mI, i1, i2, i3⟩ := Cond.arrayClass_spec (htW _ (zw_in zac_I))
  obtain ⟨cJ, kJ, mJ, j1, j2, j3⟩ := Cond.arrayClass_spec (htW _ (zw_in zac_J))
  obtain ⟨cZ, kZ, mZ, z1, z2, z3⟩ := Cond.arrayClass_spec (htW _ (zw_in zac_Z))
  have h9 := hts _ (List.mem_of_getElem? zao9)
  have h4 := hts _ (List.mem_of_getElem? zao4)
  have hJ := hts _ (List.mem_of_getElem? zaoJ)
  obtain ⟨m9, c9, k9, a1, a2, a3, a4, a5⟩ := Cond.arrayOver_spec h9
  obtain ⟨m4, c4, k4, b1, b2, b3, b4, b5⟩ := Cond.arrayOver_spec h4
  obtain ⟨mA, cA, kA, d1, d3, d4, d5⟩ := Cond.arrayOver_specA hJ
  refine ⟨(fun ci => (Classical.choose (hcl ci)).1, fun ci => (Classical.choose (hcl ci)).2), fun t => match t with | 100 => cI | 101 => cJ | 102 => cZ | 103 => c9 | 104 => c4 | _ => cA, ?_, ?_, ?_, h9, h4, hJ⟩
  · refine ⟨fun ci q hq => ?_, fun k q h => by simp at h⟩
    have hlt : ci < 12 := (List.getElem?_eq_some_iff.mp hq).1
    rw [zcl_q hlt] at hq
    cases hq
    exact Classical.choose_spec (hcl ci) hlt
  · intro t h1 h2
    have : t = 100 ∨ t = 101 ∨ t = 102 ∨ t = 103 ∨ t = 104 ∨ t = 105 := by omega
    rcases this with rfl | rfl | rfl | rfl | rfl | rfl
    · exact ⟨fun n z => ⟨fun k h => (by cases h), kI, i2, mI, i3⟩, i1⟩
    · exact ⟨fun n z => ⟨fun k h => (by cases h), kJ, j2, mJ, j3⟩, j1⟩
    · exact ⟨fun n z => ⟨fun k h => (by cases h), kZ, z2, mZ, z3⟩, z1⟩
    · exact ⟨fun n z => ⟨fun k h => (by cases h), k9, a3, m9, a4⟩, k9, m9, a3, a4, a1, a5⟩
    · exact ⟨fun n z => ⟨fun k h => (by cases h), k4, b3, m4, b4⟩, k4, m4, b3, b4, b1, b5⟩
    · exact ⟨fun n z => ⟨fun k h => (by cases h), kA, d3, mA, d4⟩, d5⟩
  · intro w hw
    have h1 := of_decide_eq_true (List.all_eq_true.mp zNest_t w hw)
    have hk := List.all_eq_true.mp zNest_k w hw
    have h2 := hts w h1
    cases w <;> first | exact va_Nw.of rfl h2 | cases hk
/-- the law's walk out of its pure run -/
theorem whole_of_pure {p : Program} {e : Env} {s : State} {m : MethodId} {below : List Frame} {meth : Method} {c : Code} (l : Launch) {b L : Nat} {xs : Nat → Int32} (hL : L ≤ 3584) (C0 : lw_At p s m meth c b L xs) (h : WP 0 0 [zr 1, zu, zu, zu] [] (zm0 L xs) (0, 0) (fun _ _ => True)) : W p l e room_1 s m #[Value.ref b] below meth c s.heap [] 0 0 (lw_Z below #[Value.ref b] s) (entryFrame m ([Value.ref b] : List Value).toArray 4) := by
  obtain ⟨hx, hb, hr, hml, hown, hts, hX, hbl, hlocks, hgv⟩ := C0
  obtain ⟨D, cx, hKK⟩ := zKK_start hts
  have hS := z_sound (l := l) (base := s.heap.size) (b := b) (L := L) (xs := xs) (D := D) (cx := cx) h
  have hent := zentry (base := s.heap.size) (b := b) (n := 4) (args := [zr 1]) (by decide)
  have key := hS p e s m #[Value.ref b] below meth c room_1 _ s.heap [] ⟨hx, hb, hr, hml, hown, fun w hw => hts w (List.mem_filter.mp hw).1, hlocks, (fun q => by cases q), hKK, zroom0.symm, fun _ => ⟨rfl, hX, hbl, rfl, hL⟩, Nat.le_refl _, hbl⟩ ⟨⟨rfl, Nat.le_refl _, (fun a ha => absurd ha (by show ¬ a + 2 < 2; omega)), fun a j => ?_, rfl, fun j hj => ?_⟩, hent, ?_, (fun v hv => by cases hv), ⟨Nat.zero_le _, Nat.zero_le _⟩, va_S.rf⟩
  · have e1 : zEd s.heap.size b L xs D cx 0 #[Value.ref b] below s (fun _ _ => True) = lw_Z below #[Value.ref b] s := by
      funext t
      unfold zEd
      rw [if_pos rfl]
    rw [e1] at key
    rw [lg_entry_eq]
    exact key
  · show zin (if _ then _ else _)
    split
    · exact zin_i _
    · exact zin_0
  · show (if (1 : Nat) = 1 ∧ (0 : Int) ≤ (j : Int) ∧ (j : Int) < (L : Int) then _ else _) = _
    rw [if_pos ⟨rfl, by omega, by omega⟩, Int.toNat_natCast]
  · intro v hv
    simp at hv
    rcases hv with rfl | rfl
    · exact Or.inr trivial
    · exact Or.inl rfl
