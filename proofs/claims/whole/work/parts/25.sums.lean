/-! Sum: follow, shrink, grow -/
theorem Lz.inj {σ : ZM} {h : Nat} {l l' : List Int} (e : l = l') (hl : Lz σ h l) : Lz σ h l' := e ▸ hl
theorem t_Sum_follow_55 {Q : ZQ} {h : Nat} {v : Int} (hv : 1 ≤ v) (hv4 : v ≤ 400) : ∀ (k : Nat) (n : Int) (acc : List Int) (u1 u2 : PV) (σ : ZM), n ≤ k → -400 ≤ n → (acc.length : Int) + n ≤ 400 → acc.length ≤ 400 → acc.sum + n ≤ 400 → 0 ≤ acc.sum → acc.sum ≤ 400 → SumO σ h → Lz σ h acc → (∀ σ', Lz σ' h (acc ++ fil v k n) → Fr (two h) σ σ' → Q zu σ') → WP m_Sum_follow 55 [zr h, u1, u2, zi v, zi n] [] σ (0, 0) Q
  | 0, n, acc, u1, u2, σ, hk, hn, h1, h1', h2, h3, h3', oh, hl, q => by
    refine r_Sum_follow_55 ⟨fun c => q σ ?_ Fr.rf, fun c => absurd c (by omega)⟩
    show Lz σ h (acc ++ [])
    rw [List.append_nil]
    exact hl
  | k + 1, n, acc, u1, u2, σ, hk, hn, h1, h1', h2, h3, h3', oh, hl, q => by
    refine r_Sum_follow_55 ⟨fun c => q σ ?_ Fr.rf, fun c => t_min ⟨oh.1, t_Sum_add oh hl (by omega) (by omega) (fun σ' g1 g2 => ⟨by omega, ?_⟩)⟩⟩
    · unfold fil
      rw [if_pos c, List.append_nil]
      exact hl
    · have hs : (acc ++ [min v n]).sum = acc.sum + min v n := by simp
      have hln : (acc ++ [min v n]).length = acc.length + 1 := by simp
      refine t_Sum_follow_55 hv hv4 k (n - v) (acc ++ [min v n]) u1 u2 σ' (by omega) (by omega) (by omega) (by omega) (by omega) (by omega) (by omega) (g2.sumO oh) g1 (fun σ2 e1 e2 => q σ2 ?_ (g2.tr e2))
      have e : fil v (k + 1) n = min v n :: fil v k (n - v) := by
        show (if n ≤ 0 then [] else min v n :: fil v k (n - v)) = _
        rw [if_neg (by omega)]
      rw [e]
      rw [List.append_assoc] at e1
      exact e1
theorem t_Sum_follow {Q : ZQ} {h o : Nat} {l : List Int} {σ : ZM} (hd : h ≠ o ∧ h ≠ o + 1 ∧ h + 1 ≠ o) (hp : Pt l) (hne : 1 ≤ l.length) (oh : SumO σ h) (oo : SumO σ o) (hlo : Lz σ o l)
    (q : ∀ σ' i, 0 ≤ i → i < (l.length : Int) → (∀ k, i < k → k < (l.length : Int) → ga l k = 1) → (i = 0 ∨ ga l i ≠ 1) → Lz σ' h (l.take i.toNat ++ fil (max 1 (ga l i - 1)) 400 (l.sum - (l.take i.toNat).sum)) → Fr (two h) σ σ' → Q zu σ') : WP m_Sum_follow 0 [zr h, zr o, zu, zu, zu] [] σ (0, 0) Q := by
  have hlen := hp.len
  have h4 := hp.2.1
  have fin : ∀ (i : Int), 0 ≤ i → i < (l.length : Int) → (∀ k, i < k → k < (l.length : Int) → ga l k = 1) → (i = 0 ∨ ga l i ≠ 1) → WP m_Sum_takeFirst 0 [zr h, zr o, zi i, zu] [] σ (0, 0) (fun r1 σ2 => (zobj σ2 o 8 ∧ WP m_Sum_at 0 [zr o, zi i] [] σ2 (0, 0) (fun r4 σ5 => zrI r4 (fun y6 => ((-2147483648 ≤ (y6 - 1 : Int) ∧ (y6 - 1 : Int) ≤ 2147483647) ∧ (WP m_Math_max_7cf53 0 [zi 1, zi (y6 - 1)] [] σ5 (0, 0) (fun r7 σ8 => zrI r7 (fun y9 => (zobj σ8 o 8 ∧ (zobj σ8 h 8 ∧ ((-2147483648 ≤ ((zI σ8 o 2) - (zI σ8 h 2) : Int) ∧ ((zI σ8 o 2) - (zI σ8 h 2) : Int) ≤ 2147483647) ∧ WP m_Sum_follow 55 [zr h, zr o, zi i, zi y9, zi ((zI σ8 o 2) - (zI σ8 h 2))] [] σ8 (0, 0) Q))))))))))) := by
    intro i i0 i1 hb hc
    have hr := hp.rng i
    have hst := sum_take l i.toNat hp.1
    have hsl := sum_pos (l.take i.toNat) (fun x hx => hp.1 x (List.mem_of_mem_take hx))
    have hlt : (l.take i.toNat).length ≤ 400 := by rw [List.length_take]; omega
    refine t_Sum_takeFirst hd hp i0 (by omega) oh oo hlo (fun σ' g1 g2 => ⟨(g2.sumO oo).1, t_Sum_at (g2.sumO oo) (g2.lz (by omega) (by omega) hlo) ⟨by omega, t_max ⟨(g2.sumO oo).1, (g2.sumO oh).1, ?_, ?_⟩⟩⟩)
    · rw [(g2.lz (by omega) (by omega) hlo).2.1, g1.2.1]; omega
    · rw [(g2.lz (by omega) (by omega) hlo).2.1, g1.2.1]
      exact t_Sum_follow_55 (by omega) (by omega) 400 _ _ _ _ σ' (by omega) (by omega) (by omega) hlt (by omega) (by omega) (by omega) (g2.sumO oh) g1 (fun σ2 e1 e2 => q σ2 i i0 i1 hb hc e1 (g2.tr e2))
  have key : ∀ (m : Nat) (i : Int) (u3 u4 : PV), i = m → i < (l.length : Int) → (∀ k, i < k → k < (l.length : Int) → ga l k = 1) → WP m_Sum_follow 7 [zr h, zr o, zi i, u3, u4] [] σ (0, 0) Q := by
    intro m
    induction m with
    | zero =>
      intro i u3 u4 hi i1 hb
      exact r_Sum_follow_7 ⟨fun c => ⟨oh.1, fin i (by omega) i1 hb (Or.inl (by omega))⟩, fun c => absurd c (by omega)⟩
    | succ m ih =>
      intro i u3 u4 hi i1 hb
      refine r_Sum_follow_7 ⟨fun c => absurd c (by omega), fun c => ⟨oo.1, t_Sum_at oo hlo ⟨fun c2 => ⟨oh.1, fin i (by omega) i1 hb (Or.inr c2)⟩, fun c2 => ⟨by omega, ?_⟩⟩⟩⟩
      refine ih (i + -1) u3 u4 (by omega) (by omega) (fun k k0 k1 => ?_)
      by_cases e : k = i
      · rw [e]; exact c2
      · exact hb k (by omega) k1
  refine r_Sum_follow_0 ⟨oo.1, by rw [hlo.1]; omega, ?_⟩
  rw [hlo.1]
  exact key (l.length - 1) _ _ _ (by omega) (by omega) (fun k k0 k1 => by omega)
