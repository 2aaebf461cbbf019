/-! the laws, of the class -/
theorem zand_one (x : Int) : zand x 1 = 0 ∨ zand x 1 = 1 := by
  unfold zand
  have h : ∀ y : Int32, (y &&& 1) = 0 ∨ (y &&& 1) = 1 := by
    intro y
    have e : (y &&& 1).toBitVec = BitVec.setWidth 32 (BitVec.ofBool (y.toBitVec.getLsbD 0)) := by
      rw [Int32.toBitVec_and]
      exact BitVec.and_one_eq_setWidth_ofBool_getLsbD
    cases hb : y.toBitVec.getLsbD 0 with
    | false => left; apply Int32.toBitVec_inj.mp; rw [e, hb]; rfl
    | true => right; apply Int32.toBitVec_inj.mp; rw [e, hb]; rfl
  have e1 : Int32.ofInt 1 = 1 := rfl
  rw [e1]
  rcases h (Int32.ofInt x) with e | e
  · left; rw [e]; rfl
  · right; rw [e]; rfl
def canB (k a b c d : Int) : Prop := (k = 0 ∧ a = 0 ∧ b = 0 ∧ c = 0 ∧ d = 0) ∨ (k = 1 ∧ 1 ≤ a ∧ a ≤ 12 ∧ 0 ≤ b ∧ b ≤ 4095 ∧ 0 ≤ c ∧ c ≤ 400 ∧ d = 0) ∨ (k = 2 ∧ 0 ≤ a ∧ a ≤ 20 ∧ 1 ≤ b ∧ b ≤ 12 ∧ 0 ≤ c ∧ c ≤ 5 ∧ 1 ≤ d ∧ d ≤ 20) ∨ (k = 3 ∧ 0 ≤ a ∧ a ≤ 60 ∧ 0 ≤ b ∧ b ≤ 60 ∧ c = 0 ∧ d = 0) ∨ (k = 4 ∧ a = 0 ∧ b = 0 ∧ c = 0 ∧ d = 0) ∨ (k = 5 ∧ 2 ≤ a ∧ a ≤ 12 ∧ b = 0 ∧ c = 0 ∧ d = 0)
/-- a law: its kind and four numbers -/
abbrev LW : Type := Int → Int
def lawOK (w : LW) : Prop := canB (w 0) (w 1) (w 2) (w 3) (w 4)
def mkW (k a b c d : Int) : LW := fun j => if j = 0 then k else if j = 1 then a else if j = 2 then b else if j = 3 then c else if j = 4 then d else 0
set_option maxHeartbeats 4000000 in
theorem t_canBe {σ : ZM} {Q : ZQ} {k a b c d : Int} (q1 : canB k a b c d → Q (zi 1) σ) (q0 : ¬ canB k a b c d → Q (zi 0) σ) : WP m_Law_canBe 0 [zi k, zi a, zi b, zi c, zi d] [] σ (0, 0) Q := by
  refine r_Law_canBe_0 ?_
  simp only [zrI, zrL, zrR, ne_eq, true_and, and_true, true_or, or_true, not_true_eq_false, not_false_eq_true, false_and, and_false, forall_const, true_implies, false_implies, implies_true, reduceCtorEq, Int.reduceEq, Int.reduceNe, Int.reduceLT, Int.reduceLE, Int.reduceNeg, Nat.reduceEqDiff, if_true, if_false, reduceIte, Int.reduceMul, Int.reduceAdd, Int.reduceSub]
  repeat' first | omega | exact q0 (by unfold canB; omega) | exact q1 (by unfold canB; omega) | apply And.intro | refine fun (_ : _ ≤ _) => ?_ | refine fun (_ : _ < _) => ?_ | refine fun (_ : _ = _) => ?_ | refine fun (_ : ¬ (_ = _)) => ?_ | refine fun (_ : _ ∨ _) => ?_ | refine t_isWithin (fun _ _ => ?_) (fun _ => ?_) | refine t_isHookLength (fun _ _ => ?_) (fun _ => ?_) | simp only [zrI, zrL, zrR, ne_eq, true_and, and_true, true_or, or_true, not_true_eq_false, not_false_eq_true, false_and, and_false, forall_const, true_implies, false_implies, implies_true, reduceCtorEq, Int.reduceEq, Int.reduceNe, Int.reduceLT, Int.reduceLE, Int.reduceNeg, Nat.reduceEqDiff, if_true, if_false, reduceIte, Int.reduceMul, Int.reduceAdd, Int.reduceSub]
/-- the law at h is w -/
def LawP (σ : ZM) (h : Nat) (w : LW) : Prop := zI σ h 2 = w 0 ∧ (w 0 = 1 → zI σ h 3 = w 1 ∧ zI σ h 4 = w 2 ∧ zI σ h 5 = w 3) ∧ (w 0 = 2 → zI σ h 6 = w 1 ∧ zI σ h 3 = w 2 ∧ zI σ h 7 = w 3 ∧ zI σ h 8 = w 4) ∧ (w 0 = 3 → zI σ h 9 = w 1 ∧ zI σ h 10 = w 2) ∧ (w 0 = 5 → zI σ h 11 = w 1)
theorem LawP.same {σ σ' : ZM} {h : Nat} {w : LW} (p : LawP σ h w) (e : ∀ j, 2 ≤ j → zI σ' h j = zI σ h j) : LawP σ' h w := by
  unfold LawP at p ⊢
  rw [e 2 (by omega), e 3 (by omega), e 4 (by omega), e 5 (by omega), e 6 (by omega), e 7 (by omega), e 8 (by omega), e 9 (by omega), e 10 (by omega), e 11 (by omega)]
  exact p
def isL (h : Nat) : Prop := 176 ≤ h ∧ h < 192 ∧ h % 2 = 0
theorem isL_law {l : Int} (l0 : 0 ≤ l) (l1 : l ≤ 7) : isL (176 + 2 * l.toNat) := by
  unfold isL
  omega
theorem Shp.lawO {σ : ZM} (hs : Shp σ) {h : Nat} (s : isL h) : zobj σ h 4 ∧ zR σ h 0 = h + 1 ∧ ∀ i : Int, 0 ≤ i → i < 401 → zarr σ (h + 1) 101 i := by
  obtain ⟨s1, s2, s3⟩ := s
  have e1 : sh0 h = (4, 12) := by
    unfold sh0
    rw [if_neg (by omega), if_neg (by omega), if_neg (by omega), if_neg (by omega), if_pos (by omega), if_pos s3]
  have e2 : sh0 (h + 1) = (101, 401) := by
    unfold sh0
    rw [if_neg (by omega), if_neg (by omega), if_neg (by omega), if_neg (by omega), if_pos (by omega), if_neg (by omega)]
  refine ⟨hs.obj (by omega) (by omega) e1, ?_, fun i i0 i1 => hs.arr (by omega) (by omega) e2 i0 i1⟩
  rw [hs.2.2 h 0 (by unfold rfx; omega)]
  unfold r0
  repeat rw [if_neg (by omega)]
theorem Shp.r4 {σ : ZM} (hs : Shp σ) {l : Int} (l0 : 0 ≤ l) (l1 : l ≤ 7) : zR σ 4 l = 176 + 2 * l.toNat := hs.2.2 4 l (by unfold rfx; omega)
theorem Shp.r3 {σ : ZM} (hs : Shp σ) {l : Int} (l0 : 0 ≤ l) (l1 : l ≤ 7) : zR σ 3 l = 160 + 2 * l.toNat := hs.2.2 3 l (by unfold rfx; omega)
theorem t_become {σ : ZM} {Q : ZQ} {h : Nat} {k a b c d : Int} (o : zobj σ h 4) (hk : canB k a b c d) (q : ∀ σ', LawP σ' h (mkW k a b c d) → zI σ' h 1 = -1 → Fr (fun x => x = h) σ σ' → Q zu σ') : WP m_Law_become 0 [zr h, zi k, zi a, zi b, zi c, zi d] [] σ (0, 0) Q := by
  have hf : ∀ {τ : ZM} {j x : Int}, Fr (fun x => x = h) τ (wI τ h j x) := Fr.wI rfl
  refine r_Law_become_0 ?_
  simp only [zobj_wI, o, zrI, zrL, zrR, ne_eq, true_and, and_true, true_or, or_true, not_true_eq_false, not_false_eq_true, false_and, and_false, forall_const, true_implies, false_implies, implies_true, reduceCtorEq, Int.reduceEq, Int.reduceNe, Int.reduceLT, Int.reduceLE, Int.reduceNeg, Nat.reduceEqDiff, if_true, if_false, reduceIte, Int.reduceMul, Int.reduceAdd, Int.reduceSub]
  have m1 : k = 1 → max 1 a = a := fun e => by
    unfold canB at hk
    omega
  have m2 : k = 2 → max 1 b = b := fun e => by
    unfold canB at hk
    omega
  refine ⟨fun e => q _ ?_ ?_ (hf.tr hf), fun e => t_max ?_, fun e => t_max ?_, fun e => q _ ?_ ?_ (((hf.tr hf).tr hf).tr hf), fun e => q _ ?_ ?_ (hf.tr hf), fun e => q _ ?_ ?_ ((hf.tr hf).tr hf)⟩
  case refine_3 =>
    rw [m1 e]
    simp only [zobj_wI, o, zrI, zrL, zrR, ne_eq, true_and, and_true, true_or, or_true, not_true_eq_false, not_false_eq_true, false_and, and_false, forall_const, true_implies, false_implies, implies_true, reduceCtorEq, Int.reduceEq, Int.reduceNe, Int.reduceLT, Int.reduceLE, Int.reduceNeg, Nat.reduceEqDiff, if_true, if_false, reduceIte, Int.reduceMul, Int.reduceAdd, Int.reduceSub]
    refine q _ ?_ ?_ ((((hf.tr hf).tr hf).tr hf).tr hf)
    all_goals first
      | (simp [zI_wI]; done)
      | (unfold canB at hk; unfold LawP mkW; simp [zI_wI]; omega)
  case refine_4 =>
    rw [m2 e]
    simp only [zobj_wI, o, zrI, zrL, zrR, ne_eq, true_and, and_true, true_or, or_true, not_true_eq_false, not_false_eq_true, false_and, and_false, forall_const, true_implies, false_implies, implies_true, reduceCtorEq, Int.reduceEq, Int.reduceNe, Int.reduceLT, Int.reduceLE, Int.reduceNeg, Nat.reduceEqDiff, if_true, if_false, reduceIte, Int.reduceMul, Int.reduceAdd, Int.reduceSub]
    refine q _ ?_ ?_ (((((hf.tr hf).tr hf).tr hf).tr hf).tr hf)
    all_goals first
      | (simp [zI_wI]; done)
      | (unfold canB at hk; unfold LawP mkW; simp [zI_wI]; omega)
  all_goals first
    | (simp [zI_wI]; done)
    | (unfold canB at hk; unfold LawP mkW; simp [zI_wI]; omega)
theorem t_covers {σ : ZM} {Q : ZQ} {h : Nat} {w : LW} {n : Int} (o : zobj σ h 4) (p : LawP σ h w) (q1 : 0 ≤ n → n ≤ (if w 0 = 3 then 60 else 400) → Q (zi 1) σ) (q0 : (n < 0 ∨ (if w 0 = 3 then 60 else 400) < n) → Q (zi 0) σ) : WP m_Law_covers 0 [zr h, zi n] [] σ (0, 0) Q := by
  refine r_Law_covers_0 ?_
  simp only [o, p.1, zrI, zrL, zrR, ne_eq, true_and, and_true, true_or, or_true, not_true_eq_false, not_false_eq_true, false_and, and_false, forall_const, true_implies, false_implies, implies_true, reduceCtorEq, Int.reduceEq, Int.reduceNe, Int.reduceLT, Int.reduceLE, Int.reduceNeg, Nat.reduceEqDiff, if_true, if_false, reduceIte, Int.reduceMul, Int.reduceAdd, Int.reduceSub]
  refine ⟨fun e => ?_, fun e => ?_⟩
  · rw [if_neg e] at q1 q0
    refine t_isWithin (fun a b => ?_) (fun a => ?_)
    · simp only [zrI, zrL, zrR, ne_eq, true_and, and_true, true_or, or_true, not_true_eq_false, not_false_eq_true, false_and, and_false, forall_const, true_implies, false_implies, implies_true, reduceCtorEq, Int.reduceEq, Int.reduceNe, Int.reduceLT, Int.reduceLE, Int.reduceNeg, Nat.reduceEqDiff, if_true, if_false, reduceIte, Int.reduceMul, Int.reduceAdd, Int.reduceSub]; exact q1 a b
    · simp only [zrI, zrL, zrR, ne_eq, true_and, and_true, true_or, or_true, not_true_eq_false, not_false_eq_true, false_and, and_false, forall_const, true_implies, false_implies, implies_true, reduceCtorEq, Int.reduceEq, Int.reduceNe, Int.reduceLT, Int.reduceLE, Int.reduceNeg, Nat.reduceEqDiff, if_true, if_false, reduceIte, Int.reduceMul, Int.reduceAdd, Int.reduceSub]; exact q0 a
  · rw [if_pos e] at q1 q0
    refine t_isWithin (fun a b => ?_) (fun a => ?_)
    · simp only [zrI, zrL, zrR, ne_eq, true_and, and_true, true_or, or_true, not_true_eq_false, not_false_eq_true, false_and, and_false, forall_const, true_implies, false_implies, implies_true, reduceCtorEq, Int.reduceEq, Int.reduceNe, Int.reduceLT, Int.reduceLE, Int.reduceNeg, Nat.reduceEqDiff, if_true, if_false, reduceIte, Int.reduceMul, Int.reduceAdd, Int.reduceSub]; exact q1 a b
    · simp only [zrI, zrL, zrR, ne_eq, true_and, and_true, true_or, or_true, not_true_eq_false, not_false_eq_true, false_and, and_false, forall_const, true_implies, false_implies, implies_true, reduceCtorEq, Int.reduceEq, Int.reduceNe, Int.reduceLT, Int.reduceLE, Int.reduceNeg, Nat.reduceEqDiff, if_true, if_false, reduceIte, Int.reduceMul, Int.reduceAdd, Int.reduceSub]; exact q0 a
theorem t_isRanked {σ : ZM} {Q : ZQ} {h : Nat} {w : LW} (o : zobj σ h 4) (p : LawP σ h w) (q1 : w 0 ≤ 3 → Q (zi 1) σ) (q0 : 3 < w 0 → Q (zi 0) σ) : WP m_Law_isRanked 0 [zr h] [] σ (0, 0) Q := by
  refine r_Law_isRanked_0 ?_
  simp only [o, p.1, zrI, zrL, zrR, ne_eq, true_and, and_true, true_or, or_true, not_true_eq_false, not_false_eq_true, false_and, and_false, forall_const, true_implies, false_implies, implies_true, reduceCtorEq, Int.reduceEq, Int.reduceNe, Int.reduceLT, Int.reduceLE, Int.reduceNeg, Nat.reduceEqDiff, if_true, if_false, reduceIte, Int.reduceMul, Int.reduceAdd, Int.reduceSub]
  exact ⟨q0, q1⟩
/-- the law lets a part v come -/
def alP (w : LW) (v : Int) : Prop := w 0 = 0 ∨ zand (zshr (w 2) (Int.tmod v (w 1))) 1 ≠ 0
theorem t_hasRest {σ : ZM} {Q : ZQ} {h : Nat} {w : LW} {v : Int} (o : zobj σ h 4) (p : LawP σ h w) (ok : lawOK w) (hw : w 0 = 1) (v0 : 0 ≤ v) (v1 : v ≤ 1000) (q1 : alP w v → Q (zi 1) σ) (q0 : ¬ alP w v → Q (zi 0) σ) : WP m_Law_hasRest 0 [zr h, zi v] [] σ (0, 0) Q := by
  obtain ⟨e3, e4, e5⟩ := p.2.1 hw
  have hb : 1 ≤ w 1 ∧ w 1 ≤ 12 := by
    unfold lawOK canB at ok
    omega
  have hd : 0 ≤ Int.tdiv v (w 1) ∧ Int.tdiv v (w 1) ≤ v := by
    rw [Int.tdiv_eq_ediv_of_nonneg v0]
    exact ⟨Int.ediv_nonneg v0 (by omega), Int.ediv_le_self _ v0⟩
  have hz := zand_one (zshr (w 2) (Int.tmod v (w 1)))
  refine r_Law_hasRest_0 ?_
  simp only [o, e3, e4, zrI, zrL, zrR, ne_eq, true_and, and_true, true_or, or_true, not_true_eq_false, not_false_eq_true, false_and, and_false, forall_const, true_implies, false_implies, implies_true, reduceCtorEq, Int.reduceEq, Int.reduceNe, Int.reduceLT, Int.reduceLE, Int.reduceNeg, Nat.reduceEqDiff, if_true, if_false, reduceIte, Int.reduceMul, Int.reduceAdd, Int.reduceSub]
  refine ⟨by omega, by omega, fun e => q0 ?_, fun e => q1 ?_⟩
  · rintro (c | c) <;> omega
  · exact Or.inr (by omega)
def gapN (w : LW) (v : Int) : Int := if Int.tmod v (w 2) = 0 then w 1 + w 3 else w 1
theorem gapN_bd {w : LW} {v : Int} (ok : lawOK w) (hw : w 0 = 2) : 0 ≤ gapN w v ∧ gapN w v ≤ 25 := by
  unfold lawOK canB at ok
  unfold gapN
  split <;> omega
theorem t_gapBehind {σ : ZM} {Q : ZQ} {h : Nat} {w : LW} {v : Int} (o : zobj σ h 4) (p : LawP σ h w) (ok : lawOK w) (hw : w 0 = 2) (v0 : 0 ≤ v) (v1 : v ≤ 1000) (q : Q (zi (gapN w v)) σ) : WP m_Law_gapBehind 0 [zr h, zi v] [] σ (0, 0) Q := by
  obtain ⟨e6, e3, e7, e8⟩ := p.2.2.1 hw
  have hb : 1 ≤ w 2 ∧ w 2 ≤ 12 ∧ 0 ≤ w 1 ∧ w 1 ≤ 20 ∧ 0 ≤ w 3 ∧ w 3 ≤ 5 := by
    unfold lawOK canB at ok
    omega
  have hd : 0 ≤ Int.tdiv v (w 2) ∧ Int.tdiv v (w 2) ≤ v := by
    rw [Int.tdiv_eq_ediv_of_nonneg v0]
    exact ⟨Int.ediv_nonneg v0 (by omega), Int.ediv_le_self _ v0⟩
  unfold gapN at q
  refine r_Law_gapBehind_0 ?_
  simp only [o, e3, e6, e7, zrI, zrL, zrR, ne_eq, true_and, and_true, true_or, or_true, not_true_eq_false, not_false_eq_true, false_and, and_false, forall_const, true_implies, false_implies, implies_true, reduceCtorEq, Int.reduceEq, Int.reduceNe, Int.reduceLT, Int.reduceLE, Int.reduceNeg, Nat.reduceEqDiff, if_true, if_false, reduceIte, Int.reduceMul, Int.reduceAdd, Int.reduceSub]
  refine ⟨by omega, by omega, fun e => ?_, fun e => ⟨by omega, ?_⟩⟩
  · rw [if_neg e] at q; exact q
  · rw [if_pos e] at q; exact q
/-- how many like ones end at i -/
def likeN (l : List Int) : Nat → Int
  | 0 => 1
  | i + 1 => if ga l ((i : Int) + 1) = ga l i then likeN l i + 1 else 1
theorem likeN_bd (l : List Int) : ∀ i : Nat, 1 ≤ likeN l i ∧ likeN l i ≤ i + 1
  | 0 => by unfold likeN; omega
  | i + 1 => by
    have := likeN_bd l i
    unfold likeN
    split <;> omega
/-- part i is not allowed -/
def badP (w : LW) (l : List Int) (i : Int) : Prop :=
  (w 0 = 1 ∧ (¬ alP w (ga l i) ∨ (0 < w 3 ∧ w 3 < likeN l i.toNat))) ∨ (w 0 = 2 ∧ ((0 < i ∧ ga l (i - 1) - ga l i < gapN w (ga l (i - 1))) ∨ (i = (l.length : Int) - 1 ∧ ga l i < w 4))) ∨ (w 0 = 3 ∧ (w 1 ≤ i ∨ w 2 < ga l i)) ∨ (w 0 = 4 ∧ colN l i ≠ ga l i) ∨ (w 0 = 5 ∧ hasHk l (w 1) i)
def ClashR (w : LW) (l : List Int) (r : Int) : Prop := (r = -1 ∧ ∀ i, 0 ≤ i → i < (l.length : Int) → ¬ badP w l i) ∨ (0 ≤ r ∧ r < (l.length : Int) ∧ badP w l r ∧ ∀ i, 0 ≤ i → i < r → ¬ badP w l i)
theorem ClashR.uniq {w : LW} {l : List Int} {r r' : Int} (h : ClashR w l r) (h' : ClashR w l r') : r = r' := by
  rcases h with ⟨h1, h2⟩ | ⟨h1, h2, h3, h4⟩ <;> rcases h' with ⟨g1, g2⟩ | ⟨g1, g2, g3, g4⟩
  · omega
  · exact absurd g3 (h2 r' g1 g2)
  · exact absurd h3 (g2 r h1 h2)
  · rcases Int.lt_trichotomy r r' with e | e | e
    · exact absurd h3 (g4 r h1 e)
    · exact e
    · exact absurd g3 (h4 r' g1 e)
theorem ga_cj {l : List Int} {i : Int} (hp : Pt l) (i0 : 0 ≤ i) : ga (cj l) i = colN l i := by
  unfold cj
  have hr := hp.rng 0
  by_cases c : i < ga l 0
  · obtain ⟨n, rfl⟩ := Int.eq_ofNat_of_zero_le i0
    rw [ga_nat (by rw [cjN_len]; omega)]
    unfold cjN
    simp
  · rw [ga_out (by rw [cjN_len]; omega), colN_fst (r := 0) hp i0 ⟨by omega, fun k k0 k1 => by omega, by show ¬ i < ga l 0; omega⟩]
theorem t_firstNotAlike {Q : ZQ} {σ : ZM} {h g : Nat} {l l' : List Int} (oh : SumO σ h) (og : SumO σ g) (hl : Lz σ h l) (hl' : Lz σ g l') (q : ∀ r, ((r = -1 ∧ ∀ i, 0 ≤ i → i < (l.length : Int) → ga l i = ga l' i) ∨ (0 ≤ r ∧ r < (l.length : Int) ∧ ga l r ≠ ga l' r ∧ ∀ i, 0 ≤ i → i < r → ga l i = ga l' i)) → Q (zi r) σ) : WP m_Law_firstNotAlike 0 [zr h, zr g, zu] [] σ (0, 0) Q := by
  have key : ∀ (k : Nat) (i : Int), 0 ≤ i → i + k = (l.length : Int) → (∀ j, 0 ≤ j → j < i → ga l j = ga l' j) → WP m_Law_firstNotAlike 2 [zr h, zr g, zi i] [] σ (0, 0) Q := by
    have h3 := hl.2.2.1
    intro k
    induction k with
    | zero =>
      intro i i0 hk hb
      refine r_Law_firstNotAlike_2 ?_
      simp only [oh.1, hl.1, zrI, zrL, zrR, ne_eq, true_and, and_true, true_or, or_true, not_true_eq_false, not_false_eq_true, false_and, and_false, forall_const, true_implies, false_implies, implies_true, reduceCtorEq, Int.reduceEq, Int.reduceNe, Int.reduceLT, Int.reduceLE, Int.reduceNeg, Nat.reduceEqDiff, if_true, if_false, reduceIte, Int.reduceMul, Int.reduceAdd, Int.reduceSub]
      repeat' first | omega | exact Or.inl (by omega) | apply And.intro | refine fun (_ : _ ≤ _) => ?_ | refine fun (_ : _ < _) => ?_ | refine fun (_ : _ = _) => ?_ | refine fun (_ : ¬ (_ = _)) => ?_ | refine fun (_ : _ ∨ _) => ?_
      exact q _ (Or.inl ⟨rfl, fun j j0 j1 => hb j j0 (by omega)⟩)
    | succ k ih =>
      intro i i0 hk hb
      refine r_Law_firstNotAlike_2 ?_
      simp only [oh.1, hl.1, zrI, zrL, zrR, ne_eq, true_and, and_true, true_or, or_true, not_true_eq_false, not_false_eq_true, false_and, and_false, forall_const, true_implies, false_implies, implies_true, reduceCtorEq, Int.reduceEq, Int.reduceNe, Int.reduceLT, Int.reduceLE, Int.reduceNeg, Nat.reduceEqDiff, if_true, if_false, reduceIte, Int.reduceMul, Int.reduceAdd, Int.reduceSub]
      repeat' first | omega | exact Or.inl (by omega) | apply And.intro | refine fun (_ : _ ≤ _) => ?_ | refine fun (_ : _ < _) => ?_ | refine fun (_ : _ = _) => ?_ | refine fun (_ : ¬ (_ = _)) => ?_ | refine fun (_ : _ ∨ _) => ?_
      refine t_Sum_at oh hl ?_
      simp only [og.1, zrI, zrL, zrR, ne_eq, true_and, and_true, true_or, or_true, not_true_eq_false, not_false_eq_true, false_and, and_false, forall_const, true_implies, false_implies, implies_true, reduceCtorEq, Int.reduceEq, Int.reduceNe, Int.reduceLT, Int.reduceLE, Int.reduceNeg, Nat.reduceEqDiff, if_true, if_false, reduceIte, Int.reduceMul, Int.reduceAdd, Int.reduceSub]
      refine t_Sum_at og hl' ?_
      simp only [zrI, zrL, zrR, ne_eq, true_and, and_true, true_or, or_true, not_true_eq_false, not_false_eq_true, false_and, and_false, forall_const, true_implies, false_implies, implies_true, reduceCtorEq, Int.reduceEq, Int.reduceNe, Int.reduceLT, Int.reduceLE, Int.reduceNeg, Nat.reduceEqDiff, if_true, if_false, reduceIte, Int.reduceMul, Int.reduceAdd, Int.reduceSub]
      repeat' first | omega | exact Or.inl (by omega) | apply And.intro | refine fun (_ : _ ≤ _) => ?_ | refine fun (_ : _ < _) => ?_ | refine fun (_ : _ = _) => ?_ | refine fun (_ : ¬ (_ = _)) => ?_ | refine fun (_ : _ ∨ _) => ?_
      · exact ih (i + 1) (by omega) (by omega) (fun j j0 j1 => by
          by_cases e : j = i
          · rw [e]; omega
          · exact hb j j0 (by omega))
      · exact q _ (Or.inr ⟨i0, by omega, by omega, hb⟩)
  exact r_Law_firstNotAlike_0 (key l.length 0 (by omega) (by omega) (fun j j0 j1 => by omega))
