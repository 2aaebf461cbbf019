/-! the constructors, printed by mkctor.py -/
theorem t_first61 {Q : ZQ} {σ : ZM} (q : Q (zi 77531) σ) : WP m_Box_firstOf 0 [zi 61] [] σ (0, 0) Q := r_Box_firstOf_0 ⟨by decide, by decide, by decide, by decide, by decide, by decide, by decide, q⟩
theorem c_Sum {σ : ZM} {Q : ZQ} (h0 : zN σ = 2) {l : List ZO} {a n : Nat} (ha : obB ((0, n, 100, 400) :: l) a 8 = true) (hn : nxO l = n) (q : Q zu (ruO ((1, a, 0, (n : Int)) :: (0, n, 100, 400) :: l) σ)) : WP m_Sum_init 0 [zr a] [] (ruO l σ) (0, 0) Q := by
  have ho := op_obj h0 ha
  refine r_Sum_init_0 ?_
  rw [show zN (ruO l σ) = n from (opN h0 l).trans hn]
  exact ⟨ho.1, by decide, by decide, ho, q⟩
theorem c_Product {σ : ZM} {Q : ZQ} (h0 : zN σ = 2) {l : List ZO} {a n : Nat} (ha : obB ((0, n, 101, 21) :: l) a 7 = true) (hn : nxO l = n) (q : Q zu (ruO ((1, a, 0, (n : Int)) :: (0, n, 101, 21) :: l) σ)) : WP m_Product_init 0 [zr a] [] (ruO l σ) (0, 0) Q := by
  have ho := op_obj h0 ha
  refine r_Product_init_0 ?_
  rw [show zN (ruO l σ) = n from (opN h0 l).trans hn]
  exact ⟨ho.1, by decide, by decide, ho, q⟩
theorem c_LawI {σ : ZM} {Q : ZQ} (h0 : zN σ = 2) {l : List ZO} {a n : Nat} (ha : obB ((0, n, 101, 401) :: l) a 4 = true) (hn : nxO l = n) (q : Q zu (ruO ((2, a, 11, 2) :: (2, a, 3, 1) :: (2, a, 2, 0) :: (2, a, 1, -1) :: (1, a, 0, (n : Int)) :: (0, n, 101, 401) :: l) σ)) : WP m_Law_init 0 [zr a] [] (ruO l σ) (0, 0) Q := by
  have ho := op_obj h0 ha
  refine r_Law_init_0 ?_
  rw [show zN (ruO l σ) = n from (opN h0 l).trans hn]
  exact ⟨ho.1, by decide, by decide, ho, r_Law_init_13 ⟨ho, r_Law_init_18 ⟨ho, r_Law_init_23 ⟨ho, r_Law_init_28 ⟨ho, r_Law_init_33 q⟩⟩⟩⟩⟩
def oA : List ZO := [(0, 2, 10, 11)]
def oQ1 : List ZO := (1, 2, 0, 3) :: (0, 3, 103, 8) :: oA
def oQ2 : List ZO := (1, 2, 1, 4) :: (0, 4, 104, 8) :: oQ1
def oQ3 : List ZO := (1, 2, 2, 5) :: (3, 5, 4, 401) :: oQ2
def oQ4 : List ZO := (0, 10, 6, 4) :: oQ3
def oQ5 : List ZO := (1, 10, 0, 11) :: (0, 11, 103, 60) :: oQ4
def oQ6 : List ZO := (1, 10, 1, 12) :: (0, 12, 100, 60) :: oQ5
def oNt : Nat → List ZO
  | 0 => oQ6
  | i + 1 => (1, 11, i, ((13 + 2 * i : Nat) : Int)) :: (1, 13 + 2 * i, 0, ((14 + 2 * i : Nat) : Int)) :: (0, 14 + 2 * i, 100, 400) :: (0, 13 + 2 * i, 8, 3) :: oNt i
def ntB (i : Nat) : Bool := obB (oNt i) 10 6 && (Nat.beq (nxO (oNt i)) (13 + 2 * i) && (Nat.beq (lkR (oNt i) 10 0) 11 && (obB ((0, 13 + 2 * i, 8, 3) :: oNt i) (13 + 2 * i) 8 && (obB ((0, 14 + 2 * i, 100, 400) :: (0, 13 + 2 * i, 8, 3) :: oNt i) (13 + 2 * i) 8 && arB ((1, 13 + 2 * i, 0, ((14 + 2 * i : Nat) : Int)) :: (0, 14 + 2 * i, 100, 400) :: (0, 13 + 2 * i, 8, 3) :: oNt i) 11 103 i))))
set_option maxRecDepth 100000 in
theorem ntB_t : ∀ i < 60, ntB i = true := by decide +kernel
theorem c_NotesL {σ : ZM} {Q : ZQ} (h0 : zN σ = 2) (q : Q zu (ruO (oNt 60) σ)) : ∀ e i : Nat, i + e = 60 → WP m_Notes_init 23 [zr 10, zi (i : Int)] [] (ruO (oNt i) σ) (2 + 2 * i, 120 + 403 * i) Q := by
  intro e
  induction e with
  | zero =>
    intro i hi
    rw [show i = 60 by omega]
    exact r_Notes_init_23 ⟨fun _ => q, fun w => by omega⟩
  | succ e ih =>
    intro i hi
    have hb := ntB_t i (by omega)
    unfold ntB at hb
    rw [Bool.and_eq_true, Bool.and_eq_true, Bool.and_eq_true, Bool.and_eq_true, Bool.and_eq_true] at hb
    obtain ⟨b1, b2, b3, b4, b5, b6⟩ := hb
    have b2' := Nat.eq_of_beq_eq_true b2
    have hN : zN (ruO (oNt i) σ) = 13 + 2 * i := (opN h0 _).trans b2'
    have hok : okO (oNt i) = true := by
      have := b1
      unfold obB at this
      rw [Bool.and_eq_true] at this
      exact this.1
    have hR : zR (ruO (oNt i) σ) 10 0 = 11 := (opR h0 (oNt i) hok 10 0 (by omega) (by omega)).trans (Nat.eq_of_beq_eq_true b3)
    refine r_Notes_init_23 ⟨fun w => by omega, fun _ => ?_⟩
    rw [hN, hR]
    refine ⟨op_obj h0 b1, by omega, by omega, op_obj h0 (l := (0, 13 + 2 * i, 8, 3) :: oNt i) b4, c_Sum h0 (l := (0, 13 + 2 * i, 8, 3) :: oNt i) (a := 13 + 2 * i) (n := 14 + 2 * i) b5 (by show nxO (oNt i) + 1 = _; omega) ?_⟩
    refine ⟨Or.inl ⟨op_arr h0 b6, op_obj h0 (l := (0, 14 + 2 * i, 100, 400) :: (0, 13 + 2 * i, 8, 3) :: oNt i) b5⟩, by omega, ?_⟩
    have := ih (i + 1) (by omega)
    rw [Int.natCast_succ, show 2 + 2 * (i + 1) = 2 + 2 * i + 1 + 1 by omega, show 120 + 403 * (i + 1) = 120 + 403 * i + 3 + 400 by omega] at this
    exact this
theorem c_Notes_10 {σ : ZM} {Q : ZQ} (h0 : zN σ = 2) (q : Q zu (ruO (oNt 60) σ)) : WP m_Notes_init 0 [zr 10, zu] [] (ruO oQ4 σ) (0, 0) Q := by
  refine r_Notes_init_0 ?_
  rw [show zN (ruO oQ4 σ) = 11 from (opN h0 oQ4).trans (by decide +kernel)]
  refine ⟨by decide, by decide, by decide, op_obj h0 (l := (0, 11, 103, 60) :: oQ4) (by decide +kernel), ?_⟩
  show WP m_Notes_init 13 [zr 10, zu] [] (ruO oQ5 σ) (1, 60) Q
  refine r_Notes_init_13 ?_
  rw [show zN (ruO oQ5 σ) = 12 from (opN h0 oQ5).trans (by decide +kernel)]
  refine ⟨by decide, by decide, op_obj h0 (l := (0, 12, 100, 60) :: oQ5) (by decide +kernel), ?_⟩
  show WP m_Notes_init 21 [zr 10, zu] [] (ruO oQ6 σ) (2, 120) Q
  refine r_Notes_init_21 ?_
  exact c_NotesL h0 q 60 0 rfl
def oQ7 : List ZO := (1, 2, 3, 10) :: (oNt 60)
def oQ8 : List ZO := (0, 133, 8, 3) :: oQ7
def oQ9 : List ZO := (1, 133, 0, 134) :: (0, 134, 100, 400) :: oQ8
def oQ10 : List ZO := (1, 2, 4, 133) :: oQ9
def oQ11 : List ZO := (0, 135, 8, 3) :: oQ10
def oQ12 : List ZO := (1, 135, 0, 136) :: (0, 136, 100, 400) :: oQ11
def oQ13 : List ZO := (1, 2, 5, 135) :: oQ12
def oQ14 : List ZO := (0, 137, 2, 8) :: oQ13
def oQ15 : List ZO := (0, 138, 9, 3) :: oQ14
def oQ16 : List ZO := (1, 138, 0, 139) :: (0, 139, 101, 80601) :: oQ15
def oQ17 : List ZO := (2, 138, 2, (-1)) :: oQ16
theorem c_Table_138 {σ : ZM} {Q : ZQ} (h0 : zN σ = 2) (q : Q zu (ruO oQ17 σ)) : WP m_Table_init 0 [zr 138] [] (ruO oQ15 σ) (0, 0) Q := by
  refine r_Table_init_0 ?_
  rw [show zN (ruO oQ15 σ) = 139 from (opN h0 oQ15).trans (by decide +kernel)]
  refine ⟨by decide, by decide, by decide, op_obj h0 (l := (0, 139, 101, 80601) :: oQ15) (by decide +kernel), ?_⟩
  show WP m_Table_init 12 [zr 138] [] (ruO oQ16 σ) (1, 80601) Q
  refine r_Table_init_12 ?_
  refine ⟨op_obj h0 (l := oQ16) (by decide +kernel), ?_⟩
  show WP m_Table_init 17 [zr 138] [] (ruO oQ17 σ) (1, 80601) Q
  refine r_Table_init_17 ?_
  exact q
def oQ18 : List ZO := (1, 137, 0, 138) :: oQ17
def oQ19 : List ZO := (0, 140, 1, 2) :: oQ18
def oQ20 : List ZO := (1, 140, 0, 141) :: (0, 141, 100, 77531) :: oQ19
def oQ21 : List ZO := (2, 140, 1, (-1)) :: oQ20
theorem c_Box_140 {σ : ZM} {Q : ZQ} (h0 : zN σ = 2) (q : Q zu (ruO oQ21 σ)) : WP m_Box_init 0 [zr 140] [] (ruO oQ19 σ) (0, 0) Q := by
  refine r_Box_init_0 ?_
  refine ⟨by decide, t_first61 ?_⟩
  show (0 ≤ (77531 : Int) ∧ (77531 : Int) ≤ 1000000) ∧ (0 + 1 ≤ 1 ∧ 0 + (77531 : Int).toNat ≤ 77531) ∧ (zobj (znew (ruO oQ19 σ) 100 (77531 : Int).toNat) 140 1 ∧ WP m_Box_init 15 [zr 140] [] (wR (znew (ruO oQ19 σ) 100 (77531 : Int).toNat) 140 0 (zN (ruO oQ19 σ))) (0 + 1, 0 + (77531 : Int).toNat) Q)
  rw [show zN (ruO oQ19 σ) = 141 from (opN h0 oQ19).trans (by decide +kernel)]
  refine ⟨by decide, by decide, op_obj h0 (l := (0, 141, 100, 77531) :: oQ19) (by decide +kernel), ?_⟩
  show WP m_Box_init 15 [zr 140] [] (ruO oQ20 σ) (1, 77531) Q
  refine r_Box_init_15 ?_
  refine ⟨op_obj h0 (l := oQ20) (by decide +kernel), ?_⟩
  show WP m_Box_init 20 [zr 140] [] (ruO oQ21 σ) (1, 77531) Q
  refine r_Box_init_20 ?_
  exact q
def oQ22 : List ZO := (1, 137, 1, 140) :: oQ21
def oQ23 : List ZO := (0, 142, 7, 1) :: oQ22
def oQ24 : List ZO := (1, 142, 0, 143) :: (0, 143, 101, 21) :: oQ23
def oQ25 : List ZO := (1, 137, 2, 142) :: oQ24
def oQ26 : List ZO := (0, 144, 4, 12) :: oQ25
def oQ27 : List ZO := (2, 144, 11, 2) :: (2, 144, 3, 1) :: (2, 144, 2, 0) :: (2, 144, 1, (-1)) :: (1, 144, 0, 145) :: (0, 145, 101, 401) :: oQ26
def oQ28 : List ZO := (1, 137, 3, 144) :: oQ27
theorem c_Counter_137 {σ : ZM} {Q : ZQ} (h0 : zN σ = 2) (q : Q zu (ruO oQ28 σ)) : WP m_Counter_init 0 [zr 137] [] (ruO oQ14 σ) (0, 0) Q := by
  refine r_Counter_init_0 ?_
  rw [show zN (ruO oQ14 σ) = 138 from (opN h0 oQ14).trans (by decide +kernel)]
  refine ⟨by decide, by decide, by decide, op_obj h0 (l := oQ15) (by decide +kernel), c_Table_138 h0 ?_⟩
  refine ⟨op_obj h0 (l := oQ17) (by decide +kernel), ?_⟩
  show WP m_Counter_init 15 [zr 137] [] (ruO oQ18 σ) (2, 80604) Q
  refine r_Counter_init_15 ?_
  rw [show zN (ruO oQ18 σ) = 140 from (opN h0 oQ18).trans (by decide +kernel)]
  refine ⟨by decide, by decide, op_obj h0 (l := oQ19) (by decide +kernel), c_Box_140 h0 ?_⟩
  refine ⟨op_obj h0 (l := oQ21) (by decide +kernel), ?_⟩
  show WP m_Counter_init 26 [zr 137] [] (ruO oQ22 σ) (4, 158137) Q
  refine r_Counter_init_26 ?_
  rw [show zN (ruO oQ22 σ) = 142 from (opN h0 oQ22).trans (by decide +kernel)]
  refine ⟨by decide, by decide, op_obj h0 (l := oQ23) (by decide +kernel), c_Product h0 (l := oQ23) (a := 142) (n := 143) (by decide +kernel) (by decide +kernel) ?_⟩
  refine ⟨op_obj h0 (l := oQ24) (by decide +kernel), ?_⟩
  show WP m_Counter_init 37 [zr 137] [] (ruO oQ25 σ) (6, 158159) Q
  refine r_Counter_init_37 ?_
  rw [show zN (ruO oQ25 σ) = 144 from (opN h0 oQ25).trans (by decide +kernel)]
  refine ⟨by decide, by decide, op_obj h0 (l := oQ26) (by decide +kernel), c_LawI h0 (l := oQ26) (a := 144) (n := 145) (by decide +kernel) (by decide +kernel) ?_⟩
  refine ⟨op_obj h0 (l := oQ27) (by decide +kernel), ?_⟩
  show WP m_Counter_init 48 [zr 137] [] (ruO oQ28 σ) (8, 158572) Q
  refine r_Counter_init_48 ?_
  exact q
def oQ29 : List ZO := (1, 2, 6, 137) :: oQ28
def oQ30 : List ZO := (0, 146, 5, 4) :: oQ29
def oQ31 : List ZO := (1, 146, 0, 147) :: (0, 147, 100, 401) :: oQ30
def oQ32 : List ZO := (1, 146, 1, 148) :: (0, 148, 100, 400) :: oQ31
def oQ33 : List ZO := (1, 146, 2, 149) :: (0, 149, 100, 400) :: oQ32
def oQ34 : List ZO := (0, 150, 8, 3) :: oQ33
def oQ35 : List ZO := (1, 150, 0, 151) :: (0, 151, 100, 400) :: oQ34
def oQ36 : List ZO := (1, 146, 3, 150) :: oQ35
theorem c_Leads_146 {σ : ZM} {Q : ZQ} (h0 : zN σ = 2) (q : Q zu (ruO oQ36 σ)) : WP m_Leads_init 0 [zr 146] [] (ruO oQ30 σ) (0, 0) Q := by
  refine r_Leads_init_0 ?_
  rw [show zN (ruO oQ30 σ) = 147 from (opN h0 oQ30).trans (by decide +kernel)]
  refine ⟨by decide, by decide, by decide, op_obj h0 (l := (0, 147, 100, 401) :: oQ30) (by decide +kernel), ?_⟩
  show WP m_Leads_init 13 [zr 146] [] (ruO oQ31 σ) (1, 401) Q
  refine r_Leads_init_13 ?_
  rw [show zN (ruO oQ31 σ) = 148 from (opN h0 oQ31).trans (by decide +kernel)]
  refine ⟨by decide, by decide, op_obj h0 (l := (0, 148, 100, 400) :: oQ31) (by decide +kernel), ?_⟩
  show WP m_Leads_init 22 [zr 146] [] (ruO oQ32 σ) (2, 801) Q
  refine r_Leads_init_22 ?_
  rw [show zN (ruO oQ32 σ) = 149 from (opN h0 oQ32).trans (by decide +kernel)]
  refine ⟨by decide, by decide, op_obj h0 (l := (0, 149, 100, 400) :: oQ32) (by decide +kernel), ?_⟩
  show WP m_Leads_init 31 [zr 146] [] (ruO oQ33 σ) (3, 1201) Q
  refine r_Leads_init_31 ?_
  rw [show zN (ruO oQ33 σ) = 150 from (opN h0 oQ33).trans (by decide +kernel)]
  refine ⟨by decide, by decide, op_obj h0 (l := oQ34) (by decide +kernel), c_Sum h0 (l := oQ34) (a := 150) (n := 151) (by decide +kernel) (by decide +kernel) ?_⟩
  refine ⟨op_obj h0 (l := oQ35) (by decide +kernel), ?_⟩
  show WP m_Leads_init 42 [zr 146] [] (ruO oQ36 σ) (5, 1604) Q
  refine r_Leads_init_42 ?_
  exact q
def oQ37 : List ZO := (1, 2, 7, 146) :: oQ36
def oQ38 : List ZO := (0, 152, 0, 2) :: oQ37
def oQ39 : List ZO := (1, 152, 0, 153) :: (0, 153, 102, 812) :: oQ38
def oQ40 : List ZO := (2, 152, 1, 2) :: oQ39
theorem c_Abacus_152 {σ : ZM} {Q : ZQ} (h0 : zN σ = 2) (q : Q zu (ruO oQ40 σ)) : WP m_Abacus_init 0 [zr 152] [] (ruO oQ38 σ) (0, 0) Q := by
  refine r_Abacus_init_0 ?_
  rw [show zN (ruO oQ38 σ) = 153 from (opN h0 oQ38).trans (by decide +kernel)]
  refine ⟨by decide, by decide, by decide, op_obj h0 (l := (0, 153, 102, 812) :: oQ38) (by decide +kernel), ?_⟩
  show WP m_Abacus_init 13 [zr 152] [] (ruO oQ39 σ) (1, 812) Q
  refine r_Abacus_init_13 ?_
  refine ⟨op_obj h0 (l := oQ39) (by decide +kernel), ?_⟩
  show WP m_Abacus_init 18 [zr 152] [] (ruO oQ40 σ) (1, 812) Q
  refine r_Abacus_init_18 ?_
  exact q
def oQ41 : List ZO := (1, 2, 8, 152) :: oQ40
def oQ42 : List ZO := (0, 154, 3, 3) :: oQ41
def oQ43 : List ZO := (0, 155, 8, 3) :: oQ42
def oQ44 : List ZO := (1, 155, 0, 156) :: (0, 156, 100, 400) :: oQ43
def oQ45 : List ZO := (1, 154, 0, 155) :: oQ44
def oQ46 : List ZO := (1, 154, 1, 157) :: (0, 157, 100, 31) :: oQ45
theorem c_Filler_154 {σ : ZM} {Q : ZQ} (h0 : zN σ = 2) (q : Q zu (ruO oQ46 σ)) : WP m_Filler_init 0 [zr 154] [] (ruO oQ42 σ) (0, 0) Q := by
  refine r_Filler_init_0 ?_
  rw [show zN (ruO oQ42 σ) = 155 from (opN h0 oQ42).trans (by decide +kernel)]
  refine ⟨by decide, by decide, by decide, op_obj h0 (l := oQ43) (by decide +kernel), c_Sum h0 (l := oQ43) (a := 155) (n := 156) (by decide +kernel) (by decide +kernel) ?_⟩
  refine ⟨op_obj h0 (l := oQ44) (by decide +kernel), ?_⟩
  show WP m_Filler_init 15 [zr 154] [] (ruO oQ45 σ) (2, 403) Q
  refine r_Filler_init_15 ?_
  rw [show zN (ruO oQ45 σ) = 157 from (opN h0 oQ45).trans (by decide +kernel)]
  refine ⟨by decide, by decide, op_obj h0 (l := (0, 157, 100, 31) :: oQ45) (by decide +kernel), ?_⟩
  show WP m_Filler_init 23 [zr 154] [] (ruO oQ46 σ) (3, 434) Q
  refine r_Filler_init_23 ?_
  exact q
def oQ47 : List ZO := (1, 2, 9, 154) :: oQ46
def oQ48 : List ZO := (0, 158, 7, 1) :: oQ47
def oQ49 : List ZO := (1, 158, 0, 159) :: (0, 159, 101, 21) :: oQ48
def oQ50 : List ZO := (1, 2, 10, 158) :: oQ49
def oSh : Nat → List ZO
  | 0 => oQ50
  | i + 1 => (1, 3, i, ((160 + 2 * i : Nat) : Int)) :: (1, 160 + 2 * i, 0, ((161 + 2 * i : Nat) : Int)) :: (0, 161 + 2 * i, 100, 400) :: (0, 160 + 2 * i, 8, 3) :: oSh i
def oLw : Nat → List ZO
  | 0 => oSh 8
  | i + 1 => (1, 4, i, ((176 + 2 * i : Nat) : Int)) :: (2, 176 + 2 * i, 11, 2) :: (2, 176 + 2 * i, 3, 1) :: (2, 176 + 2 * i, 2, 0) :: (2, 176 + 2 * i, 1, -1) :: (1, 176 + 2 * i, 0, ((177 + 2 * i : Nat) : Int)) :: (0, 177 + 2 * i, 101, 401) :: (0, 176 + 2 * i, 4, 12) :: oLw i
def shBZ (i : Nat) : Bool := obB (oSh i) 2 10 && (Nat.beq (nxO (oSh i)) (160 + 2 * i) && (Nat.beq (lkR (oSh i) 2 0) 3 && (obB ((0, 160 + 2 * i, 8, 3) :: oSh i) (160 + 2 * i) 8 && (obB ((0, 161 + 2 * i, 100, 400) :: (0, 160 + 2 * i, 8, 3) :: oSh i) (160 + 2 * i) 8 && arB ((1, 160 + 2 * i, 0, ((161 + 2 * i : Nat) : Int)) :: (0, 161 + 2 * i, 100, 400) :: (0, 160 + 2 * i, 8, 3) :: oSh i) 3 103 i))))
set_option maxRecDepth 100000 in
theorem shB_t : ∀ i < 8, shBZ i = true := by decide +kernel
theorem c_PPshB {σ : ZM} {Q : ZQ} (h0 : zN σ = 2) (q : WP m_PP_init 151 [zr 2, zi 0] [] (ruO (oSh 8) σ) (173, 191419) Q) : ∀ e i : Nat, i + e = 8 → WP m_PP_init 124 [zr 2, zi (i : Int)] [] (ruO (oSh i) σ) (157 + 2 * i, 188195 + 403 * i) Q := by
  intro e
  induction e with
  | zero =>
    intro i hi
    rw [show i = 8 by omega]
    exact r_PP_init_124 ⟨fun _ => q, fun w => by omega⟩
  | succ e ih =>
    intro i hi
    have hb := shB_t i (by omega)
    unfold shBZ at hb
    rw [Bool.and_eq_true, Bool.and_eq_true, Bool.and_eq_true, Bool.and_eq_true, Bool.and_eq_true] at hb
    obtain ⟨b1, b2, b3, b4, b5, b6⟩ := hb
    have b2' := Nat.eq_of_beq_eq_true b2
    have hN : zN (ruO (oSh i) σ) = 160 + 2 * i := (opN h0 _).trans b2'
    have hok : okO (oSh i) = true := by
      have := b1
      unfold obB at this
      rw [Bool.and_eq_true] at this
      exact this.1
    have hR : zR (ruO (oSh i) σ) 2 0 = 3 := (opR h0 (oSh i) hok 2 0 (by omega) (by omega)).trans (Nat.eq_of_beq_eq_true b3)
    refine r_PP_init_124 ⟨fun w => by omega, fun _ => ?_⟩
    rw [hN, hR]
    refine ⟨op_obj h0 b1, by omega, by omega, op_obj h0 (l := (0, 160 + 2 * i, 8, 3) :: oSh i) b4, c_Sum h0 (l := (0, 160 + 2 * i, 8, 3) :: oSh i) (a := 160 + 2 * i) (n := 161 + 2 * i) b5 (by show nxO (oSh i) + 1 = _; omega) ?_⟩
    refine ⟨Or.inl ⟨op_arr h0 b6, op_obj h0 (l := (0, 161 + 2 * i, 100, 400) :: (0, 160 + 2 * i, 8, 3) :: oSh i) b5⟩, by omega, ?_⟩
    have := ih (i + 1) (by omega)
    rw [Int.natCast_succ, show 157 + 2 * (i + 1) = 157 + 2 * i + 1 + 1 by omega, show 188195 + 403 * (i + 1) = 188195 + 403 * i + 3 + 400 by omega] at this
    exact this
def lwBZ (i : Nat) : Bool := obB (oLw i) 2 10 && (Nat.beq (nxO (oLw i)) (176 + 2 * i) && (Nat.beq (lkR (oLw i) 2 1) 4 && (obB ((0, 176 + 2 * i, 4, 12) :: oLw i) (176 + 2 * i) 4 && (obB ((0, 177 + 2 * i, 101, 401) :: (0, 176 + 2 * i, 4, 12) :: oLw i) (176 + 2 * i) 4 && arB ((2, 176 + 2 * i, 11, 2) :: (2, 176 + 2 * i, 3, 1) :: (2, 176 + 2 * i, 2, 0) :: (2, 176 + 2 * i, 1, -1) :: (1, 176 + 2 * i, 0, ((177 + 2 * i : Nat) : Int)) :: (0, 177 + 2 * i, 101, 401) :: (0, 176 + 2 * i, 4, 12) :: oLw i) 4 104 i))))
set_option maxRecDepth 100000 in
theorem lwB_t : ∀ i < 8, lwBZ i = true := by decide +kernel
theorem c_PPlwB {σ : ZM} {Q : ZQ} (h0 : zN σ = 2) (q : Q zu (ruO (oLw 8) σ)) : ∀ e i : Nat, i + e = 8 → WP m_PP_init 151 [zr 2, zi (i : Int)] [] (ruO (oLw i) σ) (173 + 2 * i, 191419 + 413 * i) Q := by
  intro e
  induction e with
  | zero =>
    intro i hi
    rw [show i = 8 by omega]
    exact r_PP_init_151 ⟨fun _ => q, fun w => by omega⟩
  | succ e ih =>
    intro i hi
    have hb := lwB_t i (by omega)
    unfold lwBZ at hb
    rw [Bool.and_eq_true, Bool.and_eq_true, Bool.and_eq_true, Bool.and_eq_true, Bool.and_eq_true] at hb
    obtain ⟨b1, b2, b3, b4, b5, b6⟩ := hb
    have b2' := Nat.eq_of_beq_eq_true b2
    have hN : zN (ruO (oLw i) σ) = 176 + 2 * i := (opN h0 _).trans b2'
    have hok : okO (oLw i) = true := by
      have := b1
      unfold obB at this
      rw [Bool.and_eq_true] at this
      exact this.1
    have hR : zR (ruO (oLw i) σ) 2 1 = 4 := (opR h0 (oLw i) hok 2 1 (by omega) (by omega)).trans (Nat.eq_of_beq_eq_true b3)
    refine r_PP_init_151 ⟨fun w => by omega, fun _ => ?_⟩
    rw [hN, hR]
    refine ⟨op_obj h0 b1, by omega, by omega, op_obj h0 (l := (0, 176 + 2 * i, 4, 12) :: oLw i) b4, c_LawI h0 (l := (0, 176 + 2 * i, 4, 12) :: oLw i) (a := 176 + 2 * i) (n := 177 + 2 * i) b5 (by show nxO (oLw i) + 1 = _; omega) ?_⟩
    refine ⟨Or.inr ⟨op_arr h0 b6, op_obj h0 (l := (0, 177 + 2 * i, 101, 401) :: (0, 176 + 2 * i, 4, 12) :: oLw i) b5⟩, by omega, ?_⟩
    have := ih (i + 1) (by omega)
    rw [Int.natCast_succ, show 173 + 2 * (i + 1) = 173 + 2 * i + 1 + 1 by omega, show 191419 + 413 * (i + 1) = 191419 + 413 * i + 12 + 401 by omega] at this
    exact this
theorem c_PP {σ : ZM} {Q : ZQ} (h0 : zN σ = 2) (q : Q zu (ruO (oLw 8) σ)) : WP m_PP_init 0 [zr 2, zu] [] (ruO oA σ) (0, 0) Q := by
  refine r_PP_init_0 ?_
  rw [show zN (ruO oA σ) = 3 from (opN h0 oA).trans (by decide +kernel)]
  refine ⟨by decide, by decide, by decide, op_obj h0 (l := (0, 3, 103, 8) :: oA) (by decide +kernel), ?_⟩
  show WP m_PP_init 13 [zr 2, zu] [] (ruO oQ1 σ) (1, 8) Q
  refine r_PP_init_13 ?_
  rw [show zN (ruO oQ1 σ) = 4 from (opN h0 oQ1).trans (by decide +kernel)]
  refine ⟨by decide, by decide, op_obj h0 (l := (0, 4, 104, 8) :: oQ1) (by decide +kernel), ?_⟩
  show WP m_PP_init 22 [zr 2, zu] [] (ruO oQ2 σ) (2, 16) Q
  refine r_PP_init_22 ?_
  rw [show zN (ruO oQ2 σ) = 5 from (opN h0 oQ2).trans (by decide +kernel)]
  refine ⟨by decide, by decide, op_obj h0 (l := (3, 5, 4, 401) :: oQ2) (by decide +kernel), ?_⟩
  show WP m_PP_init 34 [zr 2, zu] [] (ruO oQ3 σ) (7, 1624) Q
  refine r_PP_init_34 ?_
  rw [show zN (ruO oQ3 σ) = 10 from (opN h0 oQ3).trans (by decide +kernel)]
  refine ⟨by decide, by decide, op_obj h0 (l := oQ4) (by decide +kernel), c_Notes_10 h0 ?_⟩
  refine ⟨op_obj h0 (l := (oNt 60)) (by decide +kernel), ?_⟩
  show WP m_PP_init 45 [zr 2, zu] [] (ruO oQ7 σ) (130, 25928) Q
  refine r_PP_init_45 ?_
  rw [show zN (ruO oQ7 σ) = 133 from (opN h0 oQ7).trans (by decide +kernel)]
  refine ⟨by decide, by decide, op_obj h0 (l := oQ8) (by decide +kernel), c_Sum h0 (l := oQ8) (a := 133) (n := 134) (by decide +kernel) (by decide +kernel) ?_⟩
  refine ⟨op_obj h0 (l := oQ9) (by decide +kernel), ?_⟩
  show WP m_PP_init 56 [zr 2, zu] [] (ruO oQ10 σ) (132, 26331) Q
  refine r_PP_init_56 ?_
  rw [show zN (ruO oQ10 σ) = 135 from (opN h0 oQ10).trans (by decide +kernel)]
  refine ⟨by decide, by decide, op_obj h0 (l := oQ11) (by decide +kernel), c_Sum h0 (l := oQ11) (a := 135) (n := 136) (by decide +kernel) (by decide +kernel) ?_⟩
  refine ⟨op_obj h0 (l := oQ12) (by decide +kernel), ?_⟩
  show WP m_PP_init 67 [zr 2, zu] [] (ruO oQ13 σ) (134, 26734) Q
  refine r_PP_init_67 ?_
  rw [show zN (ruO oQ13 σ) = 137 from (opN h0 oQ13).trans (by decide +kernel)]
  refine ⟨by decide, by decide, op_obj h0 (l := oQ14) (by decide +kernel), c_Counter_137 h0 ?_⟩
  refine ⟨op_obj h0 (l := oQ28) (by decide +kernel), ?_⟩
  show WP m_PP_init 78 [zr 2, zu] [] (ruO oQ29 σ) (143, 185314) Q
  refine r_PP_init_78 ?_
  rw [show zN (ruO oQ29 σ) = 146 from (opN h0 oQ29).trans (by decide +kernel)]
  refine ⟨by decide, by decide, op_obj h0 (l := oQ30) (by decide +kernel), c_Leads_146 h0 ?_⟩
  refine ⟨op_obj h0 (l := oQ36) (by decide +kernel), ?_⟩
  show WP m_PP_init 89 [zr 2, zu] [] (ruO oQ37 σ) (149, 186922) Q
  refine r_PP_init_89 ?_
  rw [show zN (ruO oQ37 σ) = 152 from (opN h0 oQ37).trans (by decide +kernel)]
  refine ⟨by decide, by decide, op_obj h0 (l := oQ38) (by decide +kernel), c_Abacus_152 h0 ?_⟩
  refine ⟨op_obj h0 (l := oQ40) (by decide +kernel), ?_⟩
  show WP m_PP_init 100 [zr 2, zu] [] (ruO oQ41 σ) (151, 187736) Q
  refine r_PP_init_100 ?_
  rw [show zN (ruO oQ41 σ) = 154 from (opN h0 oQ41).trans (by decide +kernel)]
  refine ⟨by decide, by decide, op_obj h0 (l := oQ42) (by decide +kernel), c_Filler_154 h0 ?_⟩
  refine ⟨op_obj h0 (l := oQ46) (by decide +kernel), ?_⟩
  show WP m_PP_init 111 [zr 2, zu] [] (ruO oQ47 σ) (155, 188173) Q
  refine r_PP_init_111 ?_
  rw [show zN (ruO oQ47 σ) = 158 from (opN h0 oQ47).trans (by decide +kernel)]
  refine ⟨by decide, by decide, op_obj h0 (l := oQ48) (by decide +kernel), c_Product h0 (l := oQ48) (a := 158) (n := 159) (by decide +kernel) (by decide +kernel) ?_⟩
  refine ⟨op_obj h0 (l := oQ49) (by decide +kernel), ?_⟩
  show WP m_PP_init 122 [zr 2, zu] [] (ruO oQ50 σ) (157, 188195) Q
  refine r_PP_init_122 ?_
  exact c_PPshB h0 (c_PPlwB h0 q 8 0 rfl) 8 0 rfl
def oM : List ZO := (0, 192, 11, 27) :: oLw 8
def oQ51 : List ZO := (1, 192, 0, 193) :: (0, 193, 100, 40) :: oM
def oQ52 : List ZO := (1, 192, 1, 194) :: (0, 194, 100, 4400) :: oQ51
def oQ53 : List ZO := (1, 192, 2, 195) :: (0, 195, 100, 11) :: oQ52
def oQ54 : List ZO := (1, 192, 3, 196) :: (0, 196, 100, 24000) :: oQ53
def oQ55 : List ZO := (1, 192, 4, 197) :: (0, 197, 100, 60) :: oQ54
def oQ56 : List ZO := (1, 192, 5, 198) :: (0, 198, 100, 60) :: oQ55
def oQ57 : List ZO := (1, 192, 7, 199) :: (0, 199, 101, 160801) :: oQ56
def oQ58 : List ZO := (1, 192, 8, 200) :: (0, 200, 101, 160801) :: oQ57
def oQ59 : List ZO := (2, 192, 9, (-1)) :: oQ58
def oQ60 : List ZO := (1, 192, 14, 201) :: (0, 201, 101, 226981) :: oQ59
def oQ61 : List ZO := (1, 192, 16, 202) :: (0, 202, 101, 401) :: oQ60
def oQ62 : List ZO := (1, 192, 17, 203) :: (0, 203, 100, 401) :: oQ61
def oQ63 : List ZO := (1, 192, 18, 204) :: (0, 204, 100, 401) :: oQ62
def oQ64 : List ZO := (1, 192, 19, 205) :: (0, 205, 100, 402) :: oQ63
def oQ65 : List ZO := (1, 192, 20, 206) :: (0, 206, 102, 1300) :: oQ64
def oQ66 : List ZO := (1, 192, 22, 207) :: (0, 207, 100, 31) :: oQ65
def oQ67 : List ZO := (1, 192, 23, 208) :: (0, 208, 101, 3721) :: oQ66
def oQ68 : List ZO := (1, 192, 25, 209) :: (0, 209, 101, 1604) :: oQ67
def oQ69 : List ZO := (1, 192, 26, 210) :: (0, 210, 101, 401) :: oQ68
theorem c_Mod_192 {σ : ZM} {Q : ZQ} (h0 : zN σ = 2) (q : Q zu (ruO oQ69 σ)) : WP m_Mod_init 0 [zr 192] [] (ruO oM σ) (0, 0) Q := by
  refine r_Mod_init_0 ?_
  rw [show zN (ruO oM σ) = 193 from (opN h0 oM).trans (by decide +kernel)]
  refine ⟨by decide, by decide, by decide, op_obj h0 (l := (0, 193, 100, 40) :: oM) (by decide +kernel), ?_⟩
  show WP m_Mod_init 12 [zr 192] [] (ruO oQ51 σ) (1, 40) Q
  refine r_Mod_init_12 ?_
  rw [show zN (ruO oQ51 σ) = 194 from (opN h0 oQ51).trans (by decide +kernel)]
  refine ⟨by decide, by decide, op_obj h0 (l := (0, 194, 100, 4400) :: oQ51) (by decide +kernel), ?_⟩
  show WP m_Mod_init 21 [zr 192] [] (ruO oQ52 σ) (2, 4440) Q
  refine r_Mod_init_21 ?_
  rw [show zN (ruO oQ52 σ) = 195 from (opN h0 oQ52).trans (by decide +kernel)]
  refine ⟨by decide, by decide, op_obj h0 (l := (0, 195, 100, 11) :: oQ52) (by decide +kernel), ?_⟩
  show WP m_Mod_init 29 [zr 192] [] (ruO oQ53 σ) (3, 4451) Q
  refine r_Mod_init_29 ?_
  rw [show zN (ruO oQ53 σ) = 196 from (opN h0 oQ53).trans (by decide +kernel)]
  refine ⟨by decide, by decide, op_obj h0 (l := (0, 196, 100, 24000) :: oQ53) (by decide +kernel), ?_⟩
  show WP m_Mod_init 38 [zr 192] [] (ruO oQ54 σ) (4, 28451) Q
  refine r_Mod_init_38 ?_
  rw [show zN (ruO oQ54 σ) = 197 from (opN h0 oQ54).trans (by decide +kernel)]
  refine ⟨by decide, by decide, op_obj h0 (l := (0, 197, 100, 60) :: oQ54) (by decide +kernel), ?_⟩
  show WP m_Mod_init 46 [zr 192] [] (ruO oQ55 σ) (5, 28511) Q
  refine r_Mod_init_46 ?_
  rw [show zN (ruO oQ55 σ) = 198 from (opN h0 oQ55).trans (by decide +kernel)]
  refine ⟨by decide, by decide, op_obj h0 (l := (0, 198, 100, 60) :: oQ55) (by decide +kernel), ?_⟩
  show WP m_Mod_init 54 [zr 192] [] (ruO oQ56 σ) (6, 28571) Q
  refine r_Mod_init_54 ?_
  rw [show zN (ruO oQ56 σ) = 199 from (opN h0 oQ56).trans (by decide +kernel)]
  refine ⟨by decide, by decide, op_obj h0 (l := (0, 199, 101, 160801) :: oQ56) (by decide +kernel), ?_⟩
  show WP m_Mod_init 62 [zr 192] [] (ruO oQ57 σ) (7, 189372) Q
  refine r_Mod_init_62 ?_
  rw [show zN (ruO oQ57 σ) = 200 from (opN h0 oQ57).trans (by decide +kernel)]
  refine ⟨by decide, by decide, op_obj h0 (l := (0, 200, 101, 160801) :: oQ57) (by decide +kernel), ?_⟩
  show WP m_Mod_init 70 [zr 192] [] (ruO oQ58 σ) (8, 350173) Q
  refine r_Mod_init_70 ?_
  refine ⟨op_obj h0 (l := oQ58) (by decide +kernel), ?_⟩
  show WP m_Mod_init 75 [zr 192] [] (ruO oQ59 σ) (8, 350173) Q
  refine r_Mod_init_75 ?_
  rw [show zN (ruO oQ59 σ) = 201 from (opN h0 oQ59).trans (by decide +kernel)]
  refine ⟨by decide, by decide, op_obj h0 (l := (0, 201, 101, 226981) :: oQ59) (by decide +kernel), ?_⟩
  show WP m_Mod_init 83 [zr 192] [] (ruO oQ60 σ) (9, 577154) Q
  refine r_Mod_init_83 ?_
  rw [show zN (ruO oQ60 σ) = 202 from (opN h0 oQ60).trans (by decide +kernel)]
  refine ⟨by decide, by decide, op_obj h0 (l := (0, 202, 101, 401) :: oQ60) (by decide +kernel), ?_⟩
  show WP m_Mod_init 92 [zr 192] [] (ruO oQ61 σ) (10, 577555) Q
  refine r_Mod_init_92 ?_
  rw [show zN (ruO oQ61 σ) = 203 from (opN h0 oQ61).trans (by decide +kernel)]
  refine ⟨by decide, by decide, op_obj h0 (l := (0, 203, 100, 401) :: oQ61) (by decide +kernel), ?_⟩
  show WP m_Mod_init 101 [zr 192] [] (ruO oQ62 σ) (11, 577956) Q
  refine r_Mod_init_101 ?_
  rw [show zN (ruO oQ62 σ) = 204 from (opN h0 oQ62).trans (by decide +kernel)]
  refine ⟨by decide, by decide, op_obj h0 (l := (0, 204, 100, 401) :: oQ62) (by decide +kernel), ?_⟩
  show WP m_Mod_init 110 [zr 192] [] (ruO oQ63 σ) (12, 578357) Q
  refine r_Mod_init_110 ?_
  rw [show zN (ruO oQ63 σ) = 205 from (opN h0 oQ63).trans (by decide +kernel)]
  refine ⟨by decide, by decide, op_obj h0 (l := (0, 205, 100, 402) :: oQ63) (by decide +kernel), ?_⟩
  show WP m_Mod_init 119 [zr 192] [] (ruO oQ64 σ) (13, 578759) Q
  refine r_Mod_init_119 ?_
  rw [show zN (ruO oQ64 σ) = 206 from (opN h0 oQ64).trans (by decide +kernel)]
  refine ⟨by decide, by decide, op_obj h0 (l := (0, 206, 102, 1300) :: oQ64) (by decide +kernel), ?_⟩
  show WP m_Mod_init 128 [zr 192] [] (ruO oQ65 σ) (14, 580059) Q
  refine r_Mod_init_128 ?_
  rw [show zN (ruO oQ65 σ) = 207 from (opN h0 oQ65).trans (by decide +kernel)]
  refine ⟨by decide, by decide, op_obj h0 (l := (0, 207, 100, 31) :: oQ65) (by decide +kernel), ?_⟩
  show WP m_Mod_init 136 [zr 192] [] (ruO oQ66 σ) (15, 580090) Q
  refine r_Mod_init_136 ?_
  rw [show zN (ruO oQ66 σ) = 208 from (opN h0 oQ66).trans (by decide +kernel)]
  refine ⟨by decide, by decide, op_obj h0 (l := (0, 208, 101, 3721) :: oQ66) (by decide +kernel), ?_⟩
  show WP m_Mod_init 145 [zr 192] [] (ruO oQ67 σ) (16, 583811) Q
  refine r_Mod_init_145 ?_
  rw [show zN (ruO oQ67 σ) = 209 from (opN h0 oQ67).trans (by decide +kernel)]
  refine ⟨by decide, by decide, op_obj h0 (l := (0, 209, 101, 1604) :: oQ67) (by decide +kernel), ?_⟩
  show WP m_Mod_init 154 [zr 192] [] (ruO oQ68 σ) (17, 585415) Q
  refine r_Mod_init_154 ?_
  rw [show zN (ruO oQ68 σ) = 210 from (opN h0 oQ68).trans (by decide +kernel)]
  refine ⟨by decide, by decide, op_obj h0 (l := (0, 210, 101, 401) :: oQ68) (by decide +kernel), ?_⟩
  show WP m_Mod_init 163 [zr 192] [] (ruO oQ69 σ) (18, 585816) Q
  refine r_Mod_init_163 ?_
  exact q
abbrev oF : List ZO := oQ69
