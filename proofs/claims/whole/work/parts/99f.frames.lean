/-! a call of the class leaves the reference as it is, and the other way round -/
abbrev cfr (a : Nat) (_ : Int) : Prop := 2 ≤ a ∧ a < 192
abbrev mfz (a : Nat) (_ : Int) : Prop := 192 ≤ a
theorem Fz.mi {P : Nat → Int → Prop} {σ σ' : ZM} (f : Fz P σ σ') (hP : ∀ a j, (194 ≤ a ∧ a ≤ 198) ∨ (a = 192 ∧ j = 6) → ¬ P a j) {S : Int → List Int} {N : List (Int × List Int)} (h : MI σ S N) : MI σ' S N := by
  obtain ⟨hS, hN, M, m, hM⟩ := h
  exact ⟨f.shp hS, f.mn (hP _ _ (by omega)) (fun j => hP _ j (by omega)) (fun j => hP _ j (by omega)) (fun j => hP _ j (by omega)) hN, M, f.ms (fun j => hP _ j (by omega)) (fun j => hP _ j (by omega)) m, hM⟩
theorem MM.z {σ σ' : ZM} {S : Int → List Int} {N : List (Int × List Int)} {L : Int → LW} {R : Int → SQ} (f : Fz cfr σ σ') (h : MM σ S N L R) : MM σ' S N L R :=
  ⟨f.mi (fun a j w v => by omega) h.1, f.mco (fun a j w v => by omega) h.2.1, f.mrows (fun j v => by omega) h.2.2⟩
theorem CI.z {σ σ' : ZM} {S : Int → List Int} {N : List (Int × List Int)} {L : Int → LW} {R : Int → SQ} (f : Fz mfz σ σ') (h : CI σ S N L R) : CI σ' S N L R :=
  ⟨f.ai (fun a j w v => by omega) h.1, f.coI (fun a j w v => by omega) h.2.1, f.rowsI (fun a j w w2 v => by omega) h.2.2⟩
theorem SC.zc {σ σ' : ZM} {scr : Int → Int} {len : Nat} (f : Fz cfr σ σ') (h : SC σ scr len) : SC σ' scr len := ⟨by rw [f.2.1]; exact h.1, fun j => (f.i (fun v => by omega)).trans (h.2 j)⟩
theorem SC.zm {σ σ' : ZM} {scr : Int → Int} {len : Nat} (f : Fz mfz σ σ') (h : SC σ scr len) : SC σ' scr len := ⟨by rw [f.2.1]; exact h.1, fun j => (f.i (fun v => by omega)).trans (h.2 j)⟩
def NN (N : List (Int × List Int)) : Prop := ∀ e ∈ N, 0 ≤ e.1 ∧ e.1 ≤ 7 ∧ Pt e.2
theorem NN.act {S : Int → List Int} {N : List (Int × List Int)} {s : Int} (h : NN N) (hp : PtS S) (s0 : 0 ≤ s) (s1 : s ≤ 7) : NN (actN S N s) := fun e he => by
  have := List.mem_of_mem_take he
  rcases List.mem_cons.mp this with w | w
  · rw [w]
    exact ⟨s0, s1, hp s s0 s1⟩
  · exact h e w
theorem lfI {x y : Int} {A B : Prop} (e : x = y) (h : A) : (x = y → A) ∧ (x ≠ y → B) := ⟨fun _ => h, fun w => absurd e w⟩
theorem lfL {x y : Int64} {A B : Prop} (e : x = y) (h : A) : (zlcmp x y = 0 → A) ∧ (zlcmp x y ≠ 0 → B) := ⟨fun _ => h, fun w => absurd (zlcmp_eq.mpr e) w⟩
theorem shA'.uniq {l : List Int} {w r r' : Int} (h : shA' l w r) (h' : shA' l w r') : r = r' := by
  obtain ⟨a0, a1, a2, a3, a4, a5, a6, a7⟩ := h
  obtain ⟨b0, b1, b2, b3, b4, b5, b6, b7⟩ := h'
  by_cases c0 : w = 0
  · rw [a0 c0, b0 c0]
  by_cases c1 : w = 1
  · rw [a1 c1, b1 c1]
  by_cases c2 : w = 2
  · exact (a2 c2).uniq (b2 c2)
  by_cases c3 : w = 3
  · rw [a3 c3, b3 c3]
  by_cases c4 : w = 4
  · rw [a4 c4, b4 c4]
  by_cases c5 : w = 5 ∨ w = 7
  · rw [a5 c5, b5 c5]
  by_cases c6 : w = 6
  · rw [a6 c6, b6 c6]
  · have c7 : w < 0 ∨ 7 < w := by
      clear a0 a1 a2 a3 a4 a5 a6 a7 b0 b1 b2 b3 b4 b5 b6 b7
      omega
    rw [a7 c7, b7 c7]
theorem NoB.no {B : BF} {t p : Nat} (h : NoB B t) (h' : PkB B t p) : False := h p h'.1 ⟨h'.2.1, h'.2.2.1⟩
theorem CI.pts {σ : ZM} {S : Int → List Int} {N : List (Int × List Int)} {L : Int → LW} {R : Int → SQ} (h : CI σ S N L R) : PtS S := fun s s0 s1 => (h.1.2.2 s s0 s1).1
theorem isNx.no {l : List Int} {i : Int} (hp : Pt l) (h : isNx l i) (h' : ga l 0 ≤ 1) : False := by
  have := hp.2.2 0 i (by omega) h.1
  have := h.2.2.2
  omega
