/-! THE CLAIM OUT OF ONE WALK OF THE LAW'S BODY. Your part is whole_start (and what it stands on); all else here is the same for every law, but numbers. -/
def R_law : String := "PartitionPressLaw"
def lw_P (b : Addr) (xs : List Int32) (args : Array Value) (s : State) : Prop := args = #[.ref b] ∧ s.IntsAt b xs ∧ xs.length ≤ 3584 ∧ (Jvm.Cond.and given_1 narrow_1).before args s = true
def lw_Q (_ : Array Value) (s : State) (o : Outcome) (t : State) : Prop := o = .returned (some (.int 1)) ∧ Framed s o t [] 600000 7302250
def lw_Z (below : List Frame) (a : Array Value) (s : State) : State → Prop := fun t => ∃ o, t.status = .running ∧ Ended t below o ∧ lw_Q a s o t
/-- the law's own end, with 1 on the stack, nothing written that was there before, its room as the claim has it -/
theorem lw_ret {p : Program} {l : Launch} {e : Env} {s : State} {m : MethodId} {below : List Frame} {meth : Method} {c : Code} {b : Nat} (hx : p.tables.exec = Jvm.exec) (hb : c.code = code) (hr : meth.sig.returnType = ret) (hlocks : meth.locks = false) {pc : Nat} {H : Heap} {ls : Array Slot} (hdg : decode code pc = .ok (.ireturn, 1)) : W p l e room_1 s m #[Value.ref b] below meth c H [] 600000 7302250 (lw_Z below #[Value.ref b] s) (F0 m pc ls [.int 1]) := by
  intro T hT X
  obtain ⟨fs, hret, hrun, hended, hW, hframe⟩ := X.leave (v := some (.int 1)) (hlocks := hlocks) (fun h => by rw [hr] at h; cases h)
  have hmeth' : T.vm.method? m = some meth := X.method'
  refine ⟨T.setFrames fs, ?_, .returned (some (.int 1)), hrun, hended, rfl, ⟨_, rfl⟩, hW, hframe⟩
  jvm_step X.here [X.here.top, hx, hb, hdg, hmeth', hr, ret, narrow_b1]
  (try refine ⟨rfl, ?_⟩); (try refine ⟨rfl, ?_⟩)
  first | (intro acts; rw [hret _ acts rfl rfl rfl]) | rw [hret _ _ rfl rfl rfl]
  exact Steps.refl _
/-- what holds at the law's entry: the machine, the code, the tables' words (any of lw_tbl by 'hts w (by decide +kernel)'), the script of L ints xs at the cell b, what the Statement gives of the start (any of its parts by flat_of_before) -/
def lw_At (p : Program) (s : State) (m : MethodId) (meth : Method) (c : Code) (b L : Nat) (xs : Nat → Int32) : Prop :=
  p.tables.exec = Jvm.exec ∧ c.code = code ∧ meth.sig.returnType = ret ∧ c.maxLocals = 4 ∧ s.vm.findClass R_law = some m.cls ∧ (∀ w ∈ lw_tbl, w.before #[Value.ref b] s = true) ∧ va_X b L xs s s.heap ∧ b < s.heap.size ∧ meth.locks = false ∧ (Jvm.Cond.and given_1 narrow_1).before #[Value.ref b] s = true

/-! the machine's state beside the pure one's -/
def zW : List Cond := lw_tbl.filter goodWord
def zKK (D : va_G) (cx : Nat → ClassId) (U : State) : Prop := va_K D vwCl [] U ∧ (∀ t, 100 ≤ t → t ≤ 105 → ArrOfT U (cx t) (zaty t) ∧ va_RA U (cx t) (zaty t)) ∧ (∀ w ∈ zNest, va_Nw w U) ∧ va_AO RX9 U ∧ va_AO RX4 U ∧ va_AOA .long U
def zRoom (mi : Nat) : Room := { frames := (zRm mi).1, cells := (zf mi).2.1, slots := (zf mi).2.2, locals := (zRm mi).2 }
def zrv (base b rk : Nat) (r : PV) : Option Value := match rk with
  | 0 => none
  | _ => some (zmv base b r)
def zkd (rk : Nat) (r : PV) : Prop := match rk with
  | 0 => r = zu
  | 1 => ∃ y, r = zi y ∧ zin y
  | 2 => ∃ y, r = zl y
  | 3 => ∃ y, r = zr y
  | 4 => ∃ y, r = zi y ∧ zin y
  | _ => False
section ZDEF
variable (l : Launch) (base b L : Nat) (xs : Nat → Int32) (D : va_G) (cx : Nat → ClassId)
def zQc (mi : Nat) (Q : ZQ) : Array Value → State → Outcome → State → Prop := fun _ st o t => (∃ (r : PV) (σ' : ZM), o = .returned (zrv base b (zf mi).1 r) ∧ zkd (zf mi).1 r ∧ Q r σ' ∧ zHp base b L xs D cx σ' t.heap) ∧ va_F (fun q => base ≤ q) st t
def zEd (mi : Nat) (args : Array Value) (below : List Frame) (s : State) (Q : ZQ) : State → Prop := fun t => if mi = 0 then lw_Z below args s t else MQ below (zQc base b L xs D cx mi Q) args s (zf mi).2.1 (zf mi).2.2 (fun q => base ≤ q) t
def ZCt (mi : Nat) (p : Program) (s : State) (mid : MethodId) (args : Array Value) (meth : Method) (c : Code) (R : Room) : Prop :=
  p.tables.exec = Jvm.exec ∧ c.code = zB mi ∧ meth.sig.returnType = zRt mi ∧ c.maxLocals = zML mi ∧ s.vm.findClass (zOw mi) = some mid.cls ∧ (∀ w ∈ zW, w.before args s = true) ∧ meth.locks = false ∧ (zIn mi = true → meth.name = "<init>") ∧ zKK D cx s ∧ R = zRoom mi ∧
  (mi = 0 → args = #[Value.ref b] ∧ va_X b L xs s s.heap ∧ b < s.heap.size ∧ s.heap.size = base ∧ L ≤ 3584) ∧ base ≤ s.heap.size ∧ b < base
def zRL (mi : Nat) (s : State) (σ : ZM) (H : Heap) (jls : Array Slot) (lz st : List PV) (k : Nat × Nat) (locs : List Loc) : Prop :=
  zHp base b L xs D cx σ H ∧ zLR base b jls (zML mi) lz ∧ (∀ v ∈ lz, zgl v) ∧ (∀ v ∈ st, zgd v) ∧ (k.1 ≤ (zf mi).2.1 ∧ k.2 ≤ (zf mi).2.2) ∧ va_S (fun q => base ≤ q) s.heap H locs
def zSnd : ZX := fun mi pc lz st σ k Q => ∀ (p : Program) (e : Env) (s : State) (mid : MethodId) (args : Array Value) (below : List Frame) (meth : Method) (c : Code) (R : Room) (jls : Array Slot) (H : Heap) (locs : List Loc),
  ZCt base b L xs D cx mi p s mid args meth c R → zRL base b L xs D cx mi s σ H jls lz st k locs →
  W p l e R s mid args below meth c H locs k.1 k.2 (zEd base b L xs D cx mi args below s Q) (F0 mid pc jls (st.map (zmv base b)))
end ZDEF
theorem zw_in {i : Nat} {w : Cond} (h : zwd i w = true) : w ∈ zW := by
  unfold zwd at h
  rw [Bool.and_eq_true, decide_eq_true_eq] at h
  exact List.mem_filter.mpr ⟨zpk_in _ (zget_mem _ _ h.1), h.2⟩
theorem zn_in {i : Nat} {w : Cond} (h : znw i w = true) : w ∈ zNest := by
  unfold znw at h
  exact List.mem_of_getElem? (of_decide_eq_true h)
theorem zst_t {v : PV} {st : List PV} (h : ∀ w ∈ v :: st, zgd w) : ∀ w ∈ st, zgd w := fun w hw => h w (List.mem_cons_of_mem _ hw)
theorem zst_c {v : PV} {st : List PV} (hv : zgd v) (h : ∀ w ∈ st, zgd w) : ∀ w ∈ v :: st, zgd w := List.forall_mem_cons.mpr ⟨hv, h⟩
