/-! the least fixed point of the pure machine's step, and runs of several steps -/
theorem zrk_mono {rk : Nat} {r : PV} {F G : List PV → Prop} (h : ∀ vs, F vs → G vs) (hr : zrk rk r F) : zrk rk r G := by
  unfold zrk at hr ⊢
  split at hr
  · exact h _ hr
  · rcases r with y | y | y | y <;> first | exact h _ hr | exact hr.elim
  · rcases r with y | y | y | y <;> first | exact h _ hr | exact hr.elim
  · rcases r with y | y | y | y <;> first | exact h _ hr | exact hr.elim
  · rcases r with y | y | y | y <;> first | exact h _ hr | exact hr.elim
  · exact hr
theorem zcond_mono {c : ClassFile.Cond} {a b : Int} {A B A' B' : Prop} (hA : A → A') (hB : B → B') (h : zcond c a b A B) : zcond c a b A' B' := by
  unfold zcond at h ⊢
  cases c <;> exact ⟨fun q => hA (h.1 q), fun q => hB (h.2 q)⟩
theorem zswT_mono {F G : Nat → Prop} (h : ∀ t, F t → G t) {v : Int} : ∀ (ts : List Nat) (lo : Int), zswT F v lo ts → zswT G v lo ts
  | [], _, _ => trivial
  | _ :: ts, lo, hr => ⟨fun q => h _ (hr.1 q), zswT_mono h ts (lo + 1) hr.2⟩
theorem zswP_mono {F G : Nat → Prop} (h : ∀ t, F t → G t) {v : Int} {d : Nat} : ∀ (ps : List (Int × Int)) (ts : List Nat), zswP F v d ps ts → zswP G v d ps ts
  | [], _, hr => h _ hr
  | _ :: _, [], hr => hr
  | _ :: ps, _ :: ts, hr => ⟨fun q => h _ (hr.1 q), fun q => zswP_mono h ps ts (hr.2 q)⟩
theorem zcall_mono {inf : Nat × Nat × Nat} {x : List Nat} {pc : Nat} {ls st : List PV} {σ : ZM} {k : Nat × Nat} {K K' : ZK} {C C' : Nat → List PV → ZM → ZQ → Prop}
    (hK : ∀ pc ls st σ k, K pc ls st σ k → K' pc ls st σ k) (hC : ∀ m a σ (R R' : ZQ), (∀ r σ, R r σ → R' r σ) → C m a σ R → C' m a σ R')
    (h : zcall inf x pc ls st σ k K C) : zcall inf x pc ls st σ k K' C' := by
  unfold zcall at h ⊢
  split at h
  · split at h
    · split at h
      · exact ⟨h.1, hK _ _ _ _ _ h.2⟩
      · exact h
    · exact h
  · split at h
    · exact h
    · split at h
      · exact h
      · split at h
        · split at h
          · exact hC _ _ _ _ _ (fun r σ q => zrk_mono (fun _ w => hK _ _ _ _ _ w) q) h
          · exact ⟨h.1, hC _ _ _ _ _ (fun r σ q => zrk_mono (fun _ w => hK _ _ _ _ _ w) q) h.2⟩
        · exact ⟨h.1, h.2.1, hC _ _ _ _ _ (fun r σ q => zrk_mono (fun _ w => hK _ _ _ _ _ w) q) h.2.2⟩
set_option maxHeartbeats 4000000 in
theorem znx_mono {inf : Nat × Nat × Nat} {len : Nat} {i : Instr} {x : List Nat} {pc : Nat} {ls st : List PV} {σ : ZM} {k : Nat × Nat} {K K' : ZK} {Q : ZQ} {C C' : Nat → List PV → ZM → ZQ → Prop}
    (hK : ∀ pc ls st σ k, K pc ls st σ k → K' pc ls st σ k) (hC : ∀ m a σ (R R' : ZQ), (∀ r σ, R r σ → R' r σ) → C m a σ R → C' m a σ R')
    (h : znx inf len i x pc ls st σ k K Q C) : znx inf len i x pc ls st σ k K' Q C' := by
  unfold znx at h ⊢
  split at h <;> (try split at h) <;> first
    | exact hK _ _ _ _ _ h
    | exact h.elim
    | exact h
    | exact ⟨h.1, hK _ _ _ _ _ h.2⟩
    | exact ⟨h.1, h.2.1, hK _ _ _ _ _ h.2.2⟩
    | exact zcond_mono (hK _ _ _ _ _) (hK _ _ _ _ _) h
    | exact zcall_mono hK hC h
    | exact ⟨fun q => hK _ _ _ _ _ (h.1 q), zswT_mono (fun _ => hK _ _ _ _ _) _ _ h.2⟩
    | exact zswP_mono (fun _ => hK _ _ _ _ _) _ _ h
    | (split at h <;> first | exact hK _ _ _ _ _ h | exact h.elim | exact h | exact ⟨fun q => hK _ _ _ _ _ (h.1 q), fun q => hK _ _ _ _ _ (h.2 q)⟩)
    | (obtain ⟨h0, h⟩ := h; refine ⟨h0, ?_⟩; split at h <;> first | exact hK _ _ _ _ _ h | exact h.elim | exact ⟨h.1, hK _ _ _ _ _ h.2⟩)
theorem znx_monoQ {inf : Nat × Nat × Nat} {len : Nat} {i : Instr} {x : List Nat} {pc : Nat} {ls st : List PV} {σ : ZM} {k : Nat × Nat} {K : ZK} {Q Q' : ZQ} {C : Nat → List PV → ZM → ZQ → Prop}
    (hQ : ∀ r σ, Q r σ → Q' r σ) (h : znx inf len i x pc ls st σ k K Q C) : znx inf len i x pc ls st σ k K Q' C := by
  unfold znx at h ⊢
  split at h <;> first
    | exact h
    | (split at h <;> first
      | exact h
      | (split at h <;> first | exact hQ _ _ h | exact h.elim | exact ⟨h.1, hQ _ _ h.2⟩))
abbrev ZCode : Type := List (Nat × Nat × Instr × List Nat)
abbrev ZX : Type := Nat → Nat → List PV → List PV → ZM → Nat × Nat → ZQ → Prop
def zfind : ZCode → Nat → Option (Nat × Instr × List Nat)
  | [], _ => none
  | (p, e) :: t, pc => match Nat.beq p pc with
    | true => some e
    | false => zfind t pc
section ZWP
variable (zc : Nat → ZCode) (zf : Nat → Nat × Nat × Nat)
def zstep (X : ZX) : ZX := fun m pc ls st σ k Q => match zfind (zc m) pc with
  | none => False
  | some e => znx (zf m) e.1 e.2.1 e.2.2 pc ls st σ k (fun pc' ls' st' σ' k' => X m pc' ls' st' σ' k' Q) Q (fun m' a σ' R => X m' 0 a [] σ' (0, 0) R)
def zmono (X : ZX) : Prop := ∀ m pc ls st σ k (Q Q' : ZQ), (∀ r σ, Q r σ → Q' r σ) → X m pc ls st σ k Q → X m pc ls st σ k Q'
def ZWP : ZX := fun m pc ls st σ k Q => ∀ X : ZX, zmono X → (∀ m pc ls st σ k Q, zstep zc zf X m pc ls st σ k Q → X m pc ls st σ k Q) → X m pc ls st σ k Q
end ZWP
theorem ZWP.mono {zc : Nat → ZCode} {zf : Nat → Nat × Nat × Nat} : zmono (ZWP zc zf) := by
  intro m pc ls st σ k Q Q' hQ h X hX hc
  exact hX m pc ls st σ k Q Q' hQ (h X hX hc)
theorem ZWP.step {zc : Nat → ZCode} {zf : Nat → Nat × Nat × Nat} {m pc : Nat} {ls st : List PV} {σ : ZM} {k : Nat × Nat} {Q : ZQ} (h : zstep zc zf (ZWP zc zf) m pc ls st σ k Q) : ZWP zc zf m pc ls st σ k Q := by
  intro X hX hc
  apply hc
  unfold zstep at h ⊢
  split at h
  · exact h
  · exact znx_mono (fun pc ls st σ k q => q X hX hc) (fun m' a σ' R R' hR q => hX _ _ _ _ _ _ _ _ hR (q X hX hc)) h
section ZSX
variable (zc : Nat → ZCode) (zf : Nat → Nat × Nat × Nat) (m : Nat) (code : ZCode) (inf : Nat × Nat × Nat) (stops : List Nat) (Q : ZQ)
def zmem : List Nat → Nat → Bool
  | [], _ => false
  | a :: l, n => match Nat.beq a n with
    | true => true
    | false => zmem l n
def zsx : Nat → Nat → List PV → List PV → ZM → Nat × Nat → Prop
  | 0, pc, ls, st, σ, k => ZWP zc zf m pc ls st σ k Q
  | n + 1, pc, ls, st, σ, k => match zfind code pc with
    | none => False
    | some e => znx inf e.1 e.2.1 e.2.2 pc ls st σ k (fun pc' ls' st' σ' k' => match zmem stops pc' with
        | true => ZWP zc zf m pc' ls' st' σ' k' Q
        | false => zsx n pc' ls' st' σ' k') Q (fun m' a σ' R => ZWP zc zf m' 0 a [] σ' (0, 0) R)
end ZSX
theorem zsx_sound {zc : Nat → ZCode} {zf : Nat → Nat × Nat × Nat} {m : Nat} (code : ZCode) (inf : Nat × Nat × Nat) (stops : List Nat) {Q : ZQ} (hc : zc m = code) (hf : zf m = inf) : ∀ (n : Nat) {pc : Nat} {ls st : List PV} {σ : ZM} {k : Nat × Nat}, zsx zc zf m code inf stops Q n pc ls st σ k → ZWP zc zf m pc ls st σ k Q
  | 0, _, _, _, _, _, h => h
  | n + 1, pc, ls, st, σ, k, h => by
    apply ZWP.step
    unfold zstep
    unfold zsx at h
    rw [hc, hf]
    split at h
    · exact h
    · refine znx_mono (fun pc ls st σ k q => ?_) (fun m' a σ' R R' hR q => ZWP.mono _ _ _ _ _ _ _ _ hR q) h
      split at q
      · exact q
      · exact zsx_sound code inf stops hc hf n q
