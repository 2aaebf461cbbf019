/-! switches by pairs, answers, new cells -/
theorem zswP_at {F : Nat → Prop} {v pc d : Int} {t0 : Nat} (h0 : pc + d = (t0 : Int)) : ∀ (ps : List (Int × Int)) (ts : List Nat), zswP F v t0 ps ts → ps.map (fun o => pc + o.2) = ts.map Int.ofNat → ∃ t : Nat, F t ∧ pc + Op.lookupswitch.offset ps d v = (t : Int)
  | [], _, h, _ => ⟨t0, h, h0⟩
  | _ :: _, [], h, _ => h.elim
  | (a, o) :: ps, t :: ts, h, hm => by
    simp only [List.map_cons, List.cons.injEq] at hm
    by_cases e : v = a
    · refine ⟨t, h.1 e, ?_⟩
      rw [Op.lookupswitch.offset_cons, if_pos e.symm]
      exact hm.1
    · obtain ⟨t', g1, g2⟩ := zswP_at h0 ps ts (h.2 e) hm.2
      refine ⟨t', g1, ?_⟩
      rw [Op.lookupswitch.offset_cons, if_neg (fun q => e q.symm)]
      exact g2
theorem zkd_ok : ((List.range 12).all (fun ci => (List.range (zqc ci).2.2).all (fun j => decide (zKd (zTy ci j) ≤ 3)))) = true := by decide +kernel
theorem zroom0 : zRoom 0 = room_1 := rfl
theorem zbud0 : (zf 0).2 = (600000, 7302250) := rfl
section ZNEW
variable {base b L : Nat} {xs : Nat → Int32} {D : va_G} {cx : Nat → ClassId} {σ σ' : ZM} {H H1 : Heap} {a : Nat}
theorem zHp_new {t n : Nat} (h : zHp base b L xs D cx σ H) (hz : H1.size = H.size + 1) (ho : ∀ q, q < H.size → H1[q]? = H[q]?) (hc : zcl base b D cx (znew σ t n) (zN σ) H.size H1) : zHp base b L xs D cx (znew σ t n) H1 := by
  obtain ⟨g1, g2, g3, g4, g5, g6⟩ := h
  have hN : zN (znew σ t n) = zN σ + 1 := rfl
  have hS : ∀ c, c ≠ zN σ → zS (znew σ t n) c = zS σ c := fun c hc => by simp [zS, znew, zN] at hc ⊢; intro q; exact absurd q hc
  have hI : ∀ c, c ≠ zN σ → ∀ j, zI (znew σ t n) c j = zI σ c j := fun c hc j => by simp [zI, znew, zN] at hc ⊢; intro q; exact absurd q hc
  have hJ : ∀ c, c ≠ zN σ → ∀ j, zJ (znew σ t n) c j = zJ σ c j := fun c hc j => by simp [zJ, znew, zN] at hc ⊢; intro q; exact absurd q hc
  have hR : ∀ c, c ≠ zN σ → ∀ j, zR (znew σ t n) c j = zR σ c j := fun c hc j => by simp [zR, znew, zN] at hc ⊢; intro q; exact absurd q hc
  refine ⟨by rw [hz, hN, g1]; omega, by rw [hN]; omega, fun c hcn => ?_, fun c j => ?_, by rw [hS 1 (by omega)]; exact g5, fun j hj => by rw [hI 1 (by omega)]; exact g6 j hj⟩
  · rw [hN] at hcn
    by_cases e : c + 2 = zN σ
    · rw [e]
      rw [show base + c = H.size by rw [g1]; omega]
      exact hc
    · have q := g3 c (by omega)
      exact zcl_kept q (ho _ (zcl_lt q)) (hS _ e) (hI _ e) (hJ _ e) (hR _ e)
  · by_cases e : c = zN σ
    · have : zI (znew σ t n) c j = 0 := by rw [e]; simp [zI, znew, zN]
      rw [this]
      exact zin_0
    · rw [hI c e]
      exact g4 c j
theorem znew_S {t n : Nat} : zS (znew σ t n) (zN σ) = (t, n) := by simp [zS, znew, zN]
theorem znew_I {t n : Nat} {j : Int} : zI (znew σ t n) (zN σ) j = 0 := by simp [zI, znew, zN]
theorem znew_J {t n : Nat} {j : Int} : zJ (znew σ t n) (zN σ) j = 0 := by simp [zJ, znew, zN]
theorem znew_R {t n : Nat} {j : Int} : zR (znew σ t n) (zN σ) j = 0 := by simp [zR, znew, zN]
theorem zHp_mult {n d : Nat} (hn : n ≤ 1000) (hd : d ≤ 1000) (h : zHp base b L xs D cx σ H) (hz : H1.size = H.size + 1 + n) (ho : ∀ q, q < H.size → H1[q]? = H[q]?) (hc : H1[H.size]? = some (arrV (cx 105) n (fun j => va_rf (if j < n then some (H.size + 1 + j) else none)))) (hr : ∀ j, j < n → H1[H.size + 1 + j]? = some (arrV (cx 101) d (fun _ => .long 0))) : zHp base b L xs D cx (zmult σ n d) H1 := by
  obtain ⟨g1, g2, g3, g4, g5, g6⟩ := h
  have hN : zN (zmult σ n d) = zN σ + 1 + n := rfl
  have hlo : ∀ c, c < zN σ → zS (zmult σ n d) c = zS σ c ∧ (∀ j, zI (zmult σ n d) c j = zI σ c j) ∧ (∀ j, zJ (zmult σ n d) c j = zJ σ c j) ∧ (∀ j, zR (zmult σ n d) c j = zR σ c j) := by
    intro c hc
    have e1 : ¬ c = σ.1 := fun q => by unfold zN at hc; omega
    have e2 : ¬ (σ.1 < c ∧ c ≤ σ.1 + n) := fun q => by unfold zN at hc; omega
    have e3 : ¬ (σ.1 ≤ c ∧ c ≤ σ.1 + n) := fun q => by unfold zN at hc; omega
    refine ⟨?_, fun j => ?_, fun j => ?_, fun j => ?_⟩
    · show (if c = σ.1 then _ else if _ then _ else _) = _
      rw [if_neg e1, if_neg e2]; rfl
    · show (if _ then _ else _) = _
      rw [if_neg e3]; rfl
    · show (if _ then _ else _) = _
      rw [if_neg e3]; rfl
    · show (if c = σ.1 then _ else if _ then _ else _) = _
      rw [if_neg e1, if_neg e2]; rfl
  have hhi : ∀ c, zN σ ≤ c → ∀ j, zin (zI (zmult σ n d) c j) := by
    intro c hc j
    show zin (if _ then _ else _)
    split
    · exact zin_0
    · exact g4 c j
  refine ⟨by rw [hz, hN, g1]; omega, by rw [hN]; omega, fun c hcn => ?_, fun c j => ?_, by rw [(hlo 1 (by omega)).1]; exact g5, fun j hj => by rw [(hlo 1 (by omega)).2.1]; exact g6 j hj⟩
  · rw [hN] at hcn
    by_cases e : c + 2 < zN σ
    · obtain ⟨l1, l2, l3, l4⟩ := hlo (c + 2) e
      have q := g3 c e
      exact zcl_kept q (ho _ (zcl_lt q)) l1 l2 l3 l4
    · by_cases e1 : c + 2 = zN σ
      · have es : zS (zmult σ n d) (c + 2) = (105, n) := by
          show (if c + 2 = σ.1 then _ else _) = _
          rw [if_pos (show c + 2 = σ.1 from e1)]
        refine Or.inr ?_
        rw [es]
        refine ⟨⟨by show (100 : Nat) ≤ 105; decide, by show (105 : Nat) ≤ 105; decide⟩, ?_, by show n ≤ _; omega⟩
        rw [show base + c = H.size by rw [g1]; omega, hc]
        congr 2
        funext j
        unfold zav
        rw [es]
        show va_rf _ = va_rf (zra base b (if c + 2 = σ.1 then _ else _))
        rw [if_pos (show c + 2 = σ.1 from e1)]
        by_cases hj : j < n
        · rw [if_pos hj, if_pos ⟨by omega, by omega⟩]
          show _ = va_rf (zra base b (σ.1 + 1 + (j : Int).toNat))
          rw [Int.toNat_natCast, zra_ref (by unfold zN at g2; omega), g1]
          show Value.ref _ = Value.ref _
          have hN0 : zN σ = σ.1 := rfl
          rw [hN0] at g2 ⊢
          rw [show base + (σ.1 - 2) + 1 + j = base + (σ.1 + 1 + j - 2) by omega]
        · rw [if_neg hj, if_neg (fun q => hj (by omega))]
          rfl
      · have es : zS (zmult σ n d) (c + 2) = (101, d) := by
          show (if c + 2 = σ.1 then _ else if _ then _ else _) = _
          rw [if_neg (show ¬ c + 2 = σ.1 from e1), if_pos (by unfold zN at e e1 hcn; omega)]
        refine Or.inr ?_
        rw [es]
        refine ⟨⟨by show (100 : Nat) ≤ 101; decide, by show (101 : Nat) ≤ 105; decide⟩, ?_, by show d ≤ _; omega⟩
        have hj := hr (c + 2 - zN σ - 1) (by omega)
        rw [show base + c = H.size + 1 + (c + 2 - zN σ - 1) by rw [g1]; omega, hj]
        congr 2
        funext j
        unfold zav
        rw [es]
        show Value.long 0 = Value.long (if _ then _ else _)
        rw [if_pos (by unfold zN at e e1 hcn; omega)]
  · by_cases e : c < zN σ
    · rw [(hlo c e).2.1]
      exact g4 c j
    · exact hhi c (by omega) j
end ZNEW
section ZQN
variable {p : Program} {l : Launch} {e : Env} {R : Room} {s : State} {m : MethodId} {args : Array Value} {below : List Frame} {meth : Method} {c : Code} {H : Heap} {locs : List Loc} {cells slots : Nat} {Q : State → Prop}
variable {cc : ByteArray} {pc : Nat} {ls : Array Slot} {rest : List Value}
theorem zq_mna (hexec : p.tables.exec = Jvm.exec) (hb : c.code = cc) {own : String} {index : Nat} {cy : ClassId} (hown : s.vm.findClass own = some m.cls) (hclink : (Cond.classLink own index "[[J").before args s = true) (hover : va_AOA .long s) (harr : (Cond.arrayClass .long).before args s = true) (hcy : s.vm.findClass (FieldType.array .long).toString = some cy)
    {n k : Int32} {N' K' : Nat} (hn : ¬ n < 0) (hk : ¬ k < 0) (hN : n.toNatClampNeg = N') (hM : k.toNatClampNeg = K') (hN1 : N' ≤ 1000) (hK1 : K' ≤ 1000) (hcells : cells + (1 + N') ≤ R.cells) (hslots : slots + (N' + N' * K') ≤ R.slots) (hdg : decode cc pc = .ok (.multianewarray index 2, 4))
    (kk : ∀ (cA : ClassId) (H1 : Heap), H1.size = H.size + 1 + N' → H1[H.size]? = some (arrV cA N' (fun j => va_rf (if j < N' then some (H.size + 1 + j) else none))) → (∀ j, j < N' → H1[H.size + 1 + j]? = some (arrV cy K' (fun _ => .long 0))) → (∀ q, q < H.size → H1[q]? = H[q]?) → va_RA s cA (.array .long) →
      W p l e R s m args below meth c H1 locs (cells + (1 + N')) (slots + (N' + N' * K')) Q (F0 m (pc + 4) ls (.ref H.size :: rest))) : W p l e R s m args below meth c H locs cells slots Q (F0 m pc ls (.int k :: .int n :: rest)) := by
  subst hN
  subst hM
  intro T hT Xs
  obtain ⟨vm₁, cA, comp, -, fA, fC, hO, -, X', step⟩ := Xs.multianewarray2F (ty := .long) hexec hown hclink (va_AOA.use hover) harr (g := F0 m pc ls (.int k :: .int n :: rest)) rfl (by rw [hb]; exact hdg) rfl hn hk (by omega) (by show k.toNatClampNeg * 8 ≤ _; omega) (by omega) rfl rfl hcells hslots
  have ec : some cy = some comp := hcy.symm.trans fC
  cases ec
  generalize hF : Jvm.Free.Multi.fill (T.setVm vm₁) cA cy n.toNatClampNeg k.toNatClampNeg (defaultValue .long) n.toNatClampNeg = F at X' step
  have hTh : (T.setVm vm₁).heap = H := hT
  obtain ⟨f1, f2, -, -⟩ := Jvm.Free.Multi.fill_facts (T.setVm vm₁) cA cy n.toNatClampNeg k.toNatClampNeg (defaultValue .long) n.toNatClampNeg
  rw [hF, hTh] at f1 f2
  have hold : ∀ x : Nat, x < H.size → F.heap[x]? = H[x]? := fun x hx => by
    have := Jvm.Free.Multi.fill_old (T.setVm vm₁) cA cy n.toNatClampNeg k.toNatClampNeg (defaultValue .long) (a := x) (by rw [hTh]; exact hx) n.toNatClampNeg
    rw [hF, hTh] at this
    exact this
  have hrow : ∀ j : Nat, j < n.toNatClampNeg → F.heap[H.size + 1 + j]? = some (arrV cy k.toNatClampNeg (fun _ => .long 0)) := fun j hj => by
    have := Jvm.Free.Multi.fill_inner (T.setVm vm₁) cA cy n.toNatClampNeg k.toNatClampNeg (defaultValue .long) n.toNatClampNeg j hj
    rw [hF, hTh] at this
    rw [this]
    exact congrArg some (arrV_new cy k.toNatClampNeg (.long 0))
  rw [vr_outer] at f2
  rw [Nat.add_assoc cells, Nat.add_assoc slots] at X'
  obtain ⟨t, a1, b1⟩ := kk cA F.heap f1 f2 hrow hold fA F rfl X'
  refine ⟨t, step t ?_, b1⟩
  have e : T.heap.size = H.size := by rw [hT]
  rw [e]
  exact a1
end ZQN
section ZS1
variable {l : Launch} {base b L : Nat} {xs : Nat → Int32} {D : va_G} {cx : Nat → ClassId} {mi pc : Nat} {x : List Nat} {lz st : List PV} {σ : ZM} {k : Nat × Nat} {Q : ZQ} {p : Program} {e : Env} {s : State} {mid : MethodId} {args : Array Value} {below : List Frame} {meth : Method} {c : Code} {R : Room} {jls : Array Slot} {H : Heap} {locs : List Loc}

theorem zs_lookupswitch {d : Int} {ps : Array (Int × Int)} {len : Nat} (Z : ZCt base b L xs D cx mi p s mid args meth c R) (hd : decode (zB mi) pc = .ok (.lookupswitch d ps, len)) (ho : zOkI mi pc (.lookupswitch d ps) x = true) (hR : zRL base b L xs D cx mi s σ H jls lz st k locs)
    (h : znx (zf mi) len (.lookupswitch d ps) x pc lz st σ k (fun pc' ls' st' σ' k' => zSnd l base b L xs D cx mi pc' ls' st' σ' k' Q) Q (fun m' a σ' R => zSnd l base b L xs D cx m' 0 a [] σ' (0, 0) R)) : W p l e R s mid args below meth c H locs k.1 k.2 (zEd base b L xs D cx mi args below s Q) (F0 mid pc jls (st.map (zmv base b))) := by
  obtain ⟨hx, hb, hr, hml, hown, hts, hlk, hin, hKK, hRm, hlaw, hbs⟩ := id Z
  obtain ⟨hH, hL, hg, hs, hk, hS⟩ := hR
  rcases st with _ | ⟨w, st⟩
  · exact False.elim h
  rcases w with v0 | w
  rotate_left
  · exact False.elim h
  have ho : (decide ((pc : Int) + d = (zat x 0 : Int)) && decide (ps.toList.map (fun o => (pc : Int) + o.2) = x.tail.map Int.ofNat) && (ps.toList.zip (ps.toList.drop 1)).all (fun (a, next) => a.1 < next.1)) = true := ho
  simp only [Bool.and_eq_true, decide_eq_true_eq] at ho
  obtain ⟨⟨ho1, ho2⟩, ho3⟩ := ho
  have g0 : zin v0 := hs _ List.mem_cons_self
  obtain ⟨t, h, ht⟩ := zswP_at ho1 ps.toList x.tail h ho2
  refine lv_lookup hx hb hd ho3 (by rw [zin_toInt g0]) ht ?_
  exact h p e s mid args below meth c R _ _ _ Z ⟨hH, hL, hg, zst_t hs, hk, hS⟩
theorem zret_mq {l : Launch} {base b L : Nat} {xs : Nat → Int32} {D : va_G} {cx : Nat → ClassId} {mi : Nat} {Q : ZQ} {p : Program} {e : Env} {s : State} {mid : MethodId} {args : Array Value} {below : List Frame} {meth : Method} {c : Code} {R : Room} {H : Heap} {locs : List Loc} {k : Nat × Nat} {g : JFrame} (hm : mi ≠ 0) (hk : k.1 ≤ (zf mi).2.1 ∧ k.2 ≤ (zf mi).2.2) (h : W p l e R s mid args below meth c H locs (zf mi).2.1 (zf mi).2.2 (MQ below (zQc base b L xs D cx mi Q) args s (zf mi).2.1 (zf mi).2.2 (fun q => base ≤ q)) g) : W p l e R s mid args below meth c H locs k.1 k.2 (zEd base b L xs D cx mi args below s Q) g := by
  refine W.widen hk.1 hk.2 ?_
  have e1 : zEd base b L xs D cx mi args below s Q = MQ below (zQc base b L xs D cx mi Q) args s (zf mi).2.1 (zf mi).2.2 (fun q => base ≤ q) := by
    funext t
    unfold zEd
    rw [if_neg hm]
  rw [e1]
  exact h
theorem zrt_at {mi : Nat} (hm : mi < 247) : match (zf mi).1 with | 0 => zRt mi = none ∧ mi ≠ 0 | 1 => zRt mi = some .int ∧ mi ≠ 0 | 2 => zRt mi = some .long ∧ mi ≠ 0 | 3 => mi ≠ 0 ∧ ∃ n, zRt mi = some (.object n) | 4 => zRt mi = some .boolean ∧ mi ≠ 0 | 5 => mi = 0 | _ => False := by
  have h1 := List.all_eq_true.mp zrt_ok mi (List.mem_range.mpr hm)
  generalize (zf mi).1 = rk at h1 ⊢
  rcases rk with _ | _ | _ | _ | _ | _ | rk
  · simpa [Bool.and_eq_true] using h1
  · simpa [Bool.and_eq_true] using h1
  · simpa [Bool.and_eq_true] using h1
  · simp only [Bool.and_eq_true, decide_eq_true_eq] at h1
    refine ⟨h1.1, ?_⟩
    obtain ⟨-, h1⟩ := h1
    split at h1
    · exact ⟨_, by assumption⟩
    · cases h1
  · simpa [Bool.and_eq_true] using h1
  · simpa using h1
  · cases h1
theorem zf_small {mi : Nat} (h : (zf mi).1 ≤ 5) : mi < 247 := by
  rcases Nat.lt_or_ge mi 247 with q | q
  · exact q
  · have : zf mi = (9, 0, 0) := by
      unfold zf
      rw [List.getD_eq_getElem?_getD, List.getElem?_eq_none (by rw [zfL_len]; omega)]
      rfl
    rw [this] at h
    omega
theorem zs_ireturn  (Z : ZCt base b L xs D cx mi p s mid args meth c R) (hd : decode (zB mi) pc = .ok (.ireturn, 1)) (ho : zOkI mi pc (.ireturn) x = true) (hR : zRL base b L xs D cx mi s σ H jls lz st k locs)
    (h : znx (zf mi) 1 (.ireturn) x pc lz st σ k (fun pc' ls' st' σ' k' => zSnd l base b L xs D cx mi pc' ls' st' σ' k' Q) Q (fun m' a σ' R => zSnd l base b L xs D cx m' 0 a [] σ' (0, 0) R)) : W p l e R s mid args below meth c H locs k.1 k.2 (zEd base b L xs D cx mi args below s Q) (F0 mid pc jls (st.map (zmv base b))) := by
  obtain ⟨hx, hb, hr, hml, hown, hts, hlk, hin, hKK, hRm, hlaw, hbs⟩ := id Z
  obtain ⟨hH, hL, hg, hs, hk, hS⟩ := hR
  rcases st with _ | ⟨w, st⟩
  · exact False.elim h
  rcases st with _ | ⟨w2, st⟩
  rotate_left
  · rcases w with w | w | w | w <;> exact False.elim h
  rcases w with v | w
  rotate_left
  · rcases w with w | w | w <;> exact False.elim h
  have gv : zin v := hs _ List.mem_cons_self
  have h : (match (zf mi).1 with | 1 => Q (zi v) σ | 4 => (v = 0 ∨ v = 1) ∧ Q (zi v) σ | 5 => v = 1 ∧ Q (zi v) σ | _ => False) := h
  generalize hrk : (zf mi).1 = rk at h
  have h135 : rk = 1 ∨ rk = 4 ∨ rk = 5 := by
    rcases rk with _ | _ | _ | _ | _ | _ | rk
    · exact h.elim
    · exact Or.inl rfl
    · exact h.elim
    · exact h.elim
    · exact Or.inr (Or.inl rfl)
    · exact Or.inr (Or.inr rfl)
    · exact h.elim
  rcases h135 with rfl | rfl | rfl
  · have hrt := zrt_at (zf_small (by rw [hrk]; decide) : mi < 247)
    rw [hrk] at hrt
    refine zret_mq hrt.2 hk ?_
    exact W.iret hx hb (hr.trans hrt.1) (fun t ht hW => ⟨⟨zi v, σ, by rw [hrk]; rfl, by rw [hrk]; exact ⟨v, rfl, gv⟩, h, by rw [ht]; exact hH⟩, hS.F ht⟩) hS.2.2 hd
  · have hrt := zrt_at (zf_small (by rw [hrk]; decide) : mi < 247)
    rw [hrk] at hrt
    refine zret_mq hrt.2 hk ?_
    exact W.zret hx hb (hr.trans hrt.1) (by rcases h.1 with rfl | rfl <;> rfl) (fun t ht hW => ⟨⟨zi v, σ, by rw [hrk]; rfl, by rw [hrk]; exact ⟨v, rfl, gv⟩, h.2, by rw [ht]; exact hH⟩, hS.F ht⟩) hS.2.2 hd
  · have hm : mi = 0 := zf5 hrk
    obtain ⟨q1, q2, q3, q4, q5⟩ := hlaw hm
    subst hm
    obtain ⟨rfl, -⟩ := h
    subst q1
    subst hRm
    refine va_forget (fun q hq => by rw [q4]; exact hS.2.2 q hq) ?_
    refine W.widen hk.1 hk.2 ?_
    have e1 : zEd base b L xs D cx 0 #[Value.ref b] below s Q = lw_Z below #[Value.ref b] s := by
      funext t
      unfold zEd
      rw [if_pos rfl]
    rw [e1, zroom0]
    exact lw_ret hx hb hr hlk hd
theorem zs_lreturn  (Z : ZCt base b L xs D cx mi p s mid args meth c R) (hd : decode (zB mi) pc = .ok (.lreturn, 1)) (ho : zOkI mi pc (.lreturn) x = true) (hR : zRL base b L xs D cx mi s σ H jls lz st k locs)
    (h : znx (zf mi) 1 (.lreturn) x pc lz st σ k (fun pc' ls' st' σ' k' => zSnd l base b L xs D cx mi pc' ls' st' σ' k' Q) Q (fun m' a σ' R => zSnd l base b L xs D cx m' 0 a [] σ' (0, 0) R)) : W p l e R s mid args below meth c H locs k.1 k.2 (zEd base b L xs D cx mi args below s Q) (F0 mid pc jls (st.map (zmv base b))) := by
  obtain ⟨hx, hb, hr, hml, hown, hts, hlk, hin, hKK, hRm, hlaw, hbs⟩ := id Z
  obtain ⟨hH, hL, hg, hs, hk, hS⟩ := hR
  rcases st with _ | ⟨w, st⟩
  · exact False.elim h
  rcases st with _ | ⟨w2, st⟩
  rotate_left
  · rcases w with w | w | w | w <;> exact False.elim h
  rcases w with w | v | w
  · exact False.elim h
  rotate_left
  · rcases w with w | w <;> exact False.elim h
  have h : (match (zf mi).1 with | 2 => Q (zl v) σ | _ => False) := h
  generalize hrk : (zf mi).1 = rk at h
  obtain ⟨rfl, h⟩ : rk = 2 ∧ Q (zl v) σ := by
    rcases rk with _ | _ | _ | rk
    · exact h.elim
    · exact h.elim
    · exact ⟨rfl, h⟩
    · exact h.elim
  have hrt := zrt_at (zf_small (by rw [hrk]; decide) : mi < 247)
  rw [hrk] at hrt
  refine zret_mq hrt.2 hk ?_
  exact W.lret hx hb (hr.trans hrt.1) (fun t ht hW => ⟨⟨zl v, σ, by rw [hrk]; rfl, by rw [hrk]; exact ⟨v, rfl⟩, h, by rw [ht]; exact hH⟩, hS.F ht⟩) hS.2.2 hd
theorem zs_areturn  (Z : ZCt base b L xs D cx mi p s mid args meth c R) (hd : decode (zB mi) pc = .ok (.areturn, 1)) (ho : zOkI mi pc (.areturn) x = true) (hR : zRL base b L xs D cx mi s σ H jls lz st k locs)
    (h : znx (zf mi) 1 (.areturn) x pc lz st σ k (fun pc' ls' st' σ' k' => zSnd l base b L xs D cx mi pc' ls' st' σ' k' Q) Q (fun m' a σ' R => zSnd l base b L xs D cx m' 0 a [] σ' (0, 0) R)) : W p l e R s mid args below meth c H locs k.1 k.2 (zEd base b L xs D cx mi args below s Q) (F0 mid pc jls (st.map (zmv base b))) := by
  obtain ⟨hx, hb, hr, hml, hown, hts, hlk, hin, hKK, hRm, hlaw, hbs⟩ := id Z
  obtain ⟨hH, hL, hg, hs, hk, hS⟩ := hR
  rcases st with _ | ⟨w, st⟩
  · exact False.elim h
  rcases st with _ | ⟨w2, st⟩
  rotate_left
  · rcases w with w | w | w | w <;> exact False.elim h
  rcases w with w | w | v | w
  · exact False.elim h
  · exact False.elim h
  rotate_left
  · exact False.elim h
  have h : (match (zf mi).1 with | 3 => Q (zr v) σ | _ => False) := h
  generalize hrk : (zf mi).1 = rk at h
  obtain ⟨rfl, h⟩ : rk = 3 ∧ Q (zr v) σ := by
    rcases rk with _ | _ | _ | _ | rk
    · exact h.elim
    · exact h.elim
    · exact h.elim
    · exact ⟨rfl, h⟩
    · exact h.elim
  have hrt := zrt_at (zf_small (by rw [hrk]; decide) : mi < 247)
  rw [hrk] at hrt
  obtain ⟨hm0, n0, hn0⟩ := hrt
  refine zret_mq hm0 hk ?_
  have hvv : va_rf (zra base b v) = .null ∨ ∃ a, va_rf (zra base b v) = .ref a := by
    cases zra base b v with
    | none => exact Or.inl rfl
    | some a => exact Or.inr ⟨a, rfl⟩
  exact W.aret hx hb (hr.trans hn0) (Or.inl ⟨n0, rfl⟩) hvv (fun t ht hW => ⟨⟨zr v, σ, by rw [hrk]; rfl, by rw [hrk]; exact ⟨v, rfl⟩, h, by rw [ht]; exact hH⟩, hS.F ht⟩) hS.2.2 hd
theorem zs_return_  (Z : ZCt base b L xs D cx mi p s mid args meth c R) (hd : decode (zB mi) pc = .ok (.return_, 1)) (ho : zOkI mi pc (.return_) x = true) (hR : zRL base b L xs D cx mi s σ H jls lz st k locs)
    (h : znx (zf mi) 1 (.return_) x pc lz st σ k (fun pc' ls' st' σ' k' => zSnd l base b L xs D cx mi pc' ls' st' σ' k' Q) Q (fun m' a σ' R => zSnd l base b L xs D cx m' 0 a [] σ' (0, 0) R)) : W p l e R s mid args below meth c H locs k.1 k.2 (zEd base b L xs D cx mi args below s Q) (F0 mid pc jls (st.map (zmv base b))) := by
  obtain ⟨hx, hb, hr, hml, hown, hts, hlk, hin, hKK, hRm, hlaw, hbs⟩ := id Z
  obtain ⟨hH, hL, hg, hs, hk, hS⟩ := hR
  rcases st with _ | ⟨w, st⟩
  rotate_left
  · exact False.elim h
  have h : (match (zf mi).1 with | 0 => Q zu σ | _ => False) := h
  generalize hrk : (zf mi).1 = rk at h
  obtain ⟨rfl, h⟩ : rk = 0 ∧ Q zu σ := by
    rcases rk with _ | rk
    · exact ⟨rfl, h⟩
    · exact h.elim
  have hrt := zrt_at (zf_small (by rw [hrk]; decide) : mi < 247)
  rw [hrk] at hrt
  refine zret_mq hrt.2 hk ?_
  exact W.vret hx hb (hr.trans hrt.1) (fun t ht hW => ⟨⟨zu, σ, by rw [hrk]; rfl, by rw [hrk]; rfl, h, by rw [ht]; exact hH⟩, hS.F ht⟩) hS.2.2 hd
theorem zs_new {i : Nat} (Z : ZCt base b L xs D cx mi p s mid args meth c R) (hd : decode (zB mi) pc = .ok (.new i, 3)) (ho : zOkI mi pc (.new i) x = true) (hR : zRL base b L xs D cx mi s σ H jls lz st k locs)
    (h : znx (zf mi) 3 (.new i) x pc lz st σ k (fun pc' ls' st' σ' k' => zSnd l base b L xs D cx mi pc' ls' st' σ' k' Q) Q (fun m' a σ' R => zSnd l base b L xs D cx m' 0 a [] σ' (0, 0) R)) : W p l e R s mid args below meth c H locs k.1 k.2 (zEd base b L xs D cx mi args below s Q) (F0 mid pc jls (st.map (zmv base b))) := by
  obtain ⟨hx, hb, hr, hml, hown, hts, hlk, hin, hKK, hRm, hlaw, hbs⟩ := id Z
  obtain ⟨hH, hL, hg, hs, hk, hS⟩ := hR
  have ho : (decide (zat x 0 < 12) && decide (zat x 1 = (zqc (zat x 0)).2.2) && zwd (zat x 2) (.classLink (zOw mi) i (zqc (zat x 0)).1) && zwd (zat x 3) (.instantiable (zqc (zat x 0)).1 (zat x 1)) && zwd (zat x 4) (.initialized (zqc (zat x 0)).1)) = true := ho
  simp only [Bool.and_eq_true, decide_eq_true_eq] at ho
  obtain ⟨⟨⟨⟨hci, hnf⟩, hw1⟩, hw2⟩, hw3⟩ := ho
  obtain ⟨hbd, h⟩ := h
  have hKn := hKK.1.1 _ _ (zcl_q hci)
  subst hRm
  refine W.newcK hx hb hown (hts _ (zw_in hw1)) (hts _ (zw_in hw2)) (hts _ (zw_in hw3)) rfl hd hbd.1 hbd.2 hKn.2.1 rfl (fun H1 kC hkC e1 z1 o1 => ?_)
  have hO := u_born (zTy (zat x 0)) hts (zcls_in hci) hKn hkC e1 (zcls_ty hci)
  have hH1 : zHp base b L xs D cx (znew σ (zat x 0) (zat x 1)) H1 := by
    refine zHp_new hH z1 o1 (Or.inl ?_)
    rw [znew_S]
    refine ⟨hci, hO.to (fun j hj => ?_)⟩
    have hkd := of_decide_eq_true (List.all_eq_true.mp (List.all_eq_true.mp zkd_ok (zat x 0) (List.mem_range.mpr hci)) j (List.mem_range.mpr hj))
    show defaultValue (zTy (zat x 0) j) = zfv base b (znew σ (zat x 0) (zat x 1)) (zN σ) (zat x 0) j
    unfold zfv
    rw [znew_I, znew_J, znew_R]
    generalize zTy (zat x 0) j = ty at hkd ⊢
    cases ty <;> first | rfl | (simp [zKd] at hkd)
  have hz := h p e s mid args below meth c (zRoom mi) jls H1 locs Z ⟨hH1, hL, hg, zst_c trivial hs, hbd, ⟨by have := hS.1; omega, fun q q1 q2 => (o1 q (Nat.lt_of_lt_of_le q1 hS.1)).trans (hS.2.1 q q1 q2), hS.2.2⟩⟩
  have e2 : zmv base b (zr (zN σ)) = .ref H.size := by
    show va_rf (zra base b (zN σ)) = _
    rw [zra_ref hH.2.1, hH.1]
  rw [List.map_cons, e2] at hz
  exact hz
theorem zs_newarray {t : ArrayType} (Z : ZCt base b L xs D cx mi p s mid args meth c R) (hd : decode (zB mi) pc = .ok (.newarray t, 2)) (ho : zOkI mi pc (.newarray t) x = true) (hR : zRL base b L xs D cx mi s σ H jls lz st k locs)
    (h : znx (zf mi) 2 (.newarray t) x pc lz st σ k (fun pc' ls' st' σ' k' => zSnd l base b L xs D cx mi pc' ls' st' σ' k' Q) Q (fun m' a σ' R => zSnd l base b L xs D cx m' 0 a [] σ' (0, 0) R)) : W p l e R s mid args below meth c H locs k.1 k.2 (zEd base b L xs D cx mi args below s Q) (F0 mid pc jls (st.map (zmv base b))) := by
  obtain ⟨hx, hb, hr, hml, hown, hts, hlk, hin, hKK, hRm, hlaw, hbs⟩ := id Z
  obtain ⟨hH, hL, hg, hs, hk, hS⟩ := hR
  rcases st with _ | ⟨w, st⟩
  · exact False.elim h
  rcases w with v0 | w
  rotate_left
  · exact False.elim h
  obtain ⟨hn, hbd, h⟩ := h
  have gn : zin v0 := hs _ List.mem_cons_self
  have e2 : zmv base b (zr (zN σ)) = .ref H.size := by
    show va_rf (zra base b (zN σ)) = _
    rw [zra_ref hH.2.1, hH.1]
  subst hRm
  cases t <;> first | (exact absurd (show false = true from ho) (by decide)) | skip
  · have e5 : zat x 0 = 102 := of_decide_eq_true ho
    refine va_newaK hx hb (hts _ (zw_in zac_Z)) rfl hd rfl (by rw [← zin_z, zin_lt gn zin_0]; omega) (zin_nat gn hn.1) (by show v0.toNat * 1 ≤ _; omega) hbd.1 hbd.2 rfl (fun H1 cA e1 z1 o1 hA hN => ?_)
    have hcA : cA = cx 102 := Option.some.inj (hN.symm.trans (hKK.2.1 102 (by decide) (by decide)).2)
    have hH1 : zHp base b L xs D cx (znew σ (zat x 0) v0.toNat) H1 := by
      refine zHp_new hH z1 o1 (Or.inr ?_)
      rw [znew_S, e5]
      refine ⟨⟨by show (100 : Nat) ≤ 102; decide, by show (102 : Nat) ≤ 105; decide⟩, ?_, by show v0.toNat ≤ _; omega⟩
      rw [e1, hcA]
      congr 2
      funext j
      unfold zav
      rw [← e5, znew_S, e5, znew_I]
      rfl
    have hz := h p e s mid args below meth c (zRoom mi) jls H1 locs Z ⟨hH1, hL, hg, zst_c trivial (zst_t hs), hbd, ⟨by have := hS.1; omega, fun q q1 q2 => (o1 q (Nat.lt_of_lt_of_le q1 hS.1)).trans (hS.2.1 q q1 q2), hS.2.2⟩⟩
    rw [List.map_cons, e2] at hz
    exact hz
  · have e5 : zat x 0 = 100 := of_decide_eq_true ho
    refine va_newaK hx hb (hts _ (zw_in zac_I)) rfl hd rfl (by rw [← zin_z, zin_lt gn zin_0]; omega) (zin_nat gn hn.1) (by show v0.toNat * 4 ≤ _; omega) hbd.1 hbd.2 rfl (fun H1 cA e1 z1 o1 hA hN => ?_)
    have hcA : cA = cx 100 := Option.some.inj (hN.symm.trans (hKK.2.1 100 (by decide) (by decide)).2)
    have hH1 : zHp base b L xs D cx (znew σ (zat x 0) v0.toNat) H1 := by
      refine zHp_new hH z1 o1 (Or.inr ?_)
      rw [znew_S, e5]
      refine ⟨⟨by show (100 : Nat) ≤ 100; decide, by show (100 : Nat) ≤ 105; decide⟩, ?_, by show v0.toNat ≤ _; omega⟩
      rw [e1, hcA]
      congr 2
      funext j
      unfold zav
      rw [← e5, znew_S, e5, znew_I]
      rfl
    have hz := h p e s mid args below meth c (zRoom mi) jls H1 locs Z ⟨hH1, hL, hg, zst_c trivial (zst_t hs), hbd, ⟨by have := hS.1; omega, fun q q1 q2 => (o1 q (Nat.lt_of_lt_of_le q1 hS.1)).trans (hS.2.1 q q1 q2), hS.2.2⟩⟩
    rw [List.map_cons, e2] at hz
    exact hz
  · have e5 : zat x 0 = 101 := of_decide_eq_true ho
    refine va_newaK hx hb (hts _ (zw_in zac_J)) rfl hd rfl (by rw [← zin_z, zin_lt gn zin_0]; omega) (zin_nat gn hn.1) (by show v0.toNat * 8 ≤ _; omega) hbd.1 hbd.2 rfl (fun H1 cA e1 z1 o1 hA hN => ?_)
    have hcA : cA = cx 101 := Option.some.inj (hN.symm.trans (hKK.2.1 101 (by decide) (by decide)).2)
    have hH1 : zHp base b L xs D cx (znew σ (zat x 0) v0.toNat) H1 := by
      refine zHp_new hH z1 o1 (Or.inr ?_)
      rw [znew_S, e5]
      refine ⟨⟨by show (100 : Nat) ≤ 101; decide, by show (101 : Nat) ≤ 105; decide⟩, ?_, by show v0.toNat ≤ _; omega⟩
      rw [e1, hcA]
      congr 2
      funext j
      unfold zav
      rw [← e5, znew_S, e5, znew_J]
      rfl
    have hz := h p e s mid args below meth c (zRoom mi) jls H1 locs Z ⟨hH1, hL, hg, zst_c trivial (zst_t hs), hbd, ⟨by have := hS.1; omega, fun q q1 q2 => (o1 q (Nat.lt_of_lt_of_le q1 hS.1)).trans (hS.2.1 q q1 q2), hS.2.2⟩⟩
    rw [List.map_cons, e2] at hz
    exact hz
theorem zs_anewarray {i : Nat} (Z : ZCt base b L xs D cx mi p s mid args meth c R) (hd : decode (zB mi) pc = .ok (.anewarray i, 3)) (ho : zOkI mi pc (.anewarray i) x = true) (hR : zRL base b L xs D cx mi s σ H jls lz st k locs)
    (h : znx (zf mi) 3 (.anewarray i) x pc lz st σ k (fun pc' ls' st' σ' k' => zSnd l base b L xs D cx mi pc' ls' st' σ' k' Q) Q (fun m' a σ' R => zSnd l base b L xs D cx m' 0 a [] σ' (0, 0) R)) : W p l e R s mid args below meth c H locs k.1 k.2 (zEd base b L xs D cx mi args below s Q) (F0 mid pc jls (st.map (zmv base b))) := by
  obtain ⟨hx, hb, hr, hml, hown, hts, hlk, hin, hKK, hRm, hlaw, hbs⟩ := id Z
  obtain ⟨hH, hL, hg, hs, hk, hS⟩ := hR
  rcases st with _ | ⟨w, st⟩
  · exact False.elim h
  rcases w with v0 | w
  rotate_left
  · exact False.elim h
  obtain ⟨hn, hbd, h⟩ := h
  have gn : zin v0 := hs _ List.mem_cons_self
  have e2 : zmv base b (zr (zN σ)) = .ref H.size := by
    show va_rf (zra base b (zN σ)) = _
    rw [zra_ref hH.2.1, hH.1]
  subst hRm
  have ho : ((decide (zat x 0 = 103) && zwd (zat x 1) (.classLink (zOw mi) i RX9)) || (decide (zat x 0 = 104) && zwd (zat x 1) (.classLink (zOw mi) i RX4))) = true := ho
  rw [Bool.or_eq_true] at ho
  rcases ho with ho | ho
  · simp only [Bool.and_eq_true, decide_eq_true_eq] at ho
    obtain ⟨e5, hw⟩ := ho
    refine W.anew hx hb hown (hts _ (zw_in hw)) (va_AO.use hKK.2.2.2.1) rfl hd rfl (by rw [← zin_z, zin_lt gn zin_0]; omega) (by rw [zin_nat gn hn.1]; omega) hbd.1 (by rw [zin_nat gn hn.1]; exact hbd.2) (fun cA kA comp f1 f2 f3 f4 => ?_)
    rw [zin_nat gn hn.1]
    generalize hH1 : H.push ({ cls := cA, slots := Array.replicate v0.toNat .null, vm := .none } : Cell) = H1
    have z1 : H1.size = H.size + 1 := by rw [← hH1, Array.size_push]
    have e1 : H1[H.size]? = some (arrV cA v0.toNat (fun _ => .null)) := by rw [← hH1, Array.getElem?_push_size, ← arrV_new]
    have o1 : ∀ q : Nat, q < H.size → H1[q]? = H[q]? := fun q hq => by rw [← hH1, Array.getElem?_push, if_neg (Nat.ne_of_lt hq)]
    obtain ⟨-, kA', comp', k1, k2, k3, k4⟩ := hKK.2.1 103 (by decide) (by decide)
    have hcA : cA = cx 103 := Option.some.inj (f1.symm.trans k4)
    have hH2 : zHp base b L xs D cx (znew σ (zat x 0) v0.toNat) H1 := by
      refine zHp_new hH z1 o1 (Or.inr ?_)
      rw [znew_S, e5]
      refine ⟨⟨by show (100 : Nat) ≤ 103; decide, by show (103 : Nat) ≤ 105; decide⟩, ?_, by show v0.toNat ≤ _; omega⟩
      rw [e1, hcA]
      congr 2
      funext j
      unfold zav
      rw [← e5, znew_S, e5, znew_R]
      rfl
    have hz := h p e s mid args below meth c (zRoom mi) jls H1 locs Z ⟨hH2, hL, hg, zst_c trivial (zst_t hs), hbd, ⟨by have := hS.1; omega, fun q q1 q2 => (o1 q (Nat.lt_of_lt_of_le q1 hS.1)).trans (hS.2.1 q q1 q2), hS.2.2⟩⟩
    rw [List.map_cons, e2] at hz
    exact hz
  · simp only [Bool.and_eq_true, decide_eq_true_eq] at ho
    obtain ⟨e5, hw⟩ := ho
    refine W.anew hx hb hown (hts _ (zw_in hw)) (va_AO.use hKK.2.2.2.2.1) rfl hd rfl (by rw [← zin_z, zin_lt gn zin_0]; omega) (by rw [zin_nat gn hn.1]; omega) hbd.1 (by rw [zin_nat gn hn.1]; exact hbd.2) (fun cA kA comp f1 f2 f3 f4 => ?_)
    rw [zin_nat gn hn.1]
    generalize hH1 : H.push ({ cls := cA, slots := Array.replicate v0.toNat .null, vm := .none } : Cell) = H1
    have z1 : H1.size = H.size + 1 := by rw [← hH1, Array.size_push]
    have e1 : H1[H.size]? = some (arrV cA v0.toNat (fun _ => .null)) := by rw [← hH1, Array.getElem?_push_size, ← arrV_new]
    have o1 : ∀ q : Nat, q < H.size → H1[q]? = H[q]? := fun q hq => by rw [← hH1, Array.getElem?_push, if_neg (Nat.ne_of_lt hq)]
    obtain ⟨-, kA', comp', k1, k2, k3, k4⟩ := hKK.2.1 104 (by decide) (by decide)
    have hcA : cA = cx 104 := Option.some.inj (f1.symm.trans k4)
    have hH2 : zHp base b L xs D cx (znew σ (zat x 0) v0.toNat) H1 := by
      refine zHp_new hH z1 o1 (Or.inr ?_)
      rw [znew_S, e5]
      refine ⟨⟨by show (100 : Nat) ≤ 104; decide, by show (104 : Nat) ≤ 105; decide⟩, ?_, by show v0.toNat ≤ _; omega⟩
      rw [e1, hcA]
      congr 2
      funext j
      unfold zav
      rw [← e5, znew_S, e5, znew_R]
      rfl
    have hz := h p e s mid args below meth c (zRoom mi) jls H1 locs Z ⟨hH2, hL, hg, zst_c trivial (zst_t hs), hbd, ⟨by have := hS.1; omega, fun q q1 q2 => (o1 q (Nat.lt_of_lt_of_le q1 hS.1)).trans (hS.2.1 q q1 q2), hS.2.2⟩⟩
    rw [List.map_cons, e2] at hz
    exact hz
theorem zs_multianewarray {i dd : Nat} (Z : ZCt base b L xs D cx mi p s mid args meth c R) (hd : decode (zB mi) pc = .ok (.multianewarray i dd, 4)) (ho : zOkI mi pc (.multianewarray i dd) x = true) (hR : zRL base b L xs D cx mi s σ H jls lz st k locs)
    (h : znx (zf mi) 4 (.multianewarray i dd) x pc lz st σ k (fun pc' ls' st' σ' k' => zSnd l base b L xs D cx mi pc' ls' st' σ' k' Q) Q (fun m' a σ' R => zSnd l base b L xs D cx m' 0 a [] σ' (0, 0) R)) : W p l e R s mid args below meth c H locs k.1 k.2 (zEd base b L xs D cx mi args below s Q) (F0 mid pc jls (st.map (zmv base b))) := by
  obtain ⟨hx, hb, hr, hml, hown, hts, hlk, hin, hKK, hRm, hlaw, hbs⟩ := id Z
  obtain ⟨hH, hL, hg, hs, hk, hS⟩ := hR
  rcases st with _ | ⟨w, st⟩
  · exact False.elim h
  rcases w with v0 | w
  rotate_left
  · exact False.elim h
  rcases st with _ | ⟨w, st⟩
  · exact False.elim h
  rcases w with v1 | w
  rotate_left
  · exact False.elim h
  obtain ⟨hn, hbd, h⟩ := h
  have g0 : zin v0 := hs _ List.mem_cons_self
  have g1 : zin v1 := (zst_t hs) _ List.mem_cons_self
  have e2 : zmv base b (zr (zN σ)) = .ref H.size := by
    show va_rf (zra base b (zN σ)) = _
    rw [zra_ref hH.2.1, hH.1]
  have ho : (decide (dd = 2) && zwd (zat x 1) (.classLink (zOw mi) i "[[J")) = true := ho
  rw [Bool.and_eq_true, decide_eq_true_eq] at ho
  obtain ⟨rfl, hw⟩ := ho
  subst hRm
  refine zq_mna (cy := cx 101) hx hb hown (hts _ (zw_in hw)) hKK.2.2.2.2.2 (hts _ (zw_in zac_J)) (hKK.2.1 101 (by decide) (by decide)).2 (by rw [← zin_z, zin_lt g1 zin_0]; omega) (by rw [← zin_z, zin_lt g0 zin_0]; omega) (zin_nat g1 hn.1) (zin_nat g0 hn.2.2.1) (by omega) (by omega) hbd.1 hbd.2 hd (fun cA H1 z1 e1 r1 o1 hA => ?_)
  have hcA : cA = cx 105 := Option.some.inj (hA.symm.trans (hKK.2.1 105 (by decide) (by decide)).2)
  have hH1 : zHp base b L xs D cx (zmult σ v1.toNat v0.toNat) H1 := zHp_mult (by omega) (by omega) hH z1 o1 (by rw [e1, hcA]) r1
  have hz := h p e s mid args below meth c (zRoom mi) jls H1 locs Z ⟨hH1, hL, hg, zst_c trivial (zst_t (zst_t hs)), hbd, ⟨by have := hS.1; omega, fun q q1 q2 => (o1 q (Nat.lt_of_lt_of_le q1 hS.1)).trans (hS.2.1 q q1 q2), hS.2.2⟩⟩
  rw [List.map_cons, e2] at hz
  exact hz
end ZS1
