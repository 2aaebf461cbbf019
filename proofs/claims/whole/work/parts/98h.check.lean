/-! filling: all shapes of up to 30, decided -/
def incC : Nat → List Nat → List Nat
  | 0, cs => cs
  | a + 1, [] => 1 :: incC a []
  | a + 1, c :: cs => (c + 1) :: incC a cs
def rowP : Nat → List Nat → Nat
  | 0, _ => 1
  | a + 1, [] => (a + 1) * rowP a []
  | a + 1, c :: cs => (a + 1 + c) * rowP a cs
def pushS (a : Nat) (s : List Nat × Nat) : List Nat × Nat := (incC a s.1, rowP a s.1 * s.2)
def sumD (f : Nat) : List (List Nat × Nat) → Nat
  | [] => 0
  | d :: ds => f / d.2 + sumD f ds
def okS (n : Nat) (s : List Nat × Nat) (ds : List (List Nat × Nat)) : Bool :=
  Nat.beq (fct n % s.2) 0 && (Nat.beq n 0 || Nat.ble (fct n / s.2) (sumD (fct (n - 1)) ds)) && Nat.blt (fct n / s.2) 9223372036854775808
def nextD (a h : Nat) (s : List Nat × Nat) (ds : List (List Nat × Nat)) : List (List Nat × Nat) :=
  bif Nat.blt h a then pushS (a - 1) s :: ds.map (pushS a) else ds.map (pushS a)
def chk : Nat → Nat → Nat → Nat → List Nat × Nat → List (List Nat × Nat) → Bool
  | 0, _, _, _, _, _ => true
  | f + 1, n, a, h, s, ds =>
    bif Nat.ble (n + a) 30 then
      (okS (n + a) (pushS a s) (nextD a h s ds) && chk f (n + a) a a (pushS a s) (nextD a h s ds)) && chk f n (a + 1) h s ds
    else true
set_option maxRecDepth 100000 in
theorem chk_all : chk 64 0 1 0 ([], 1) [] = true := by decide +kernel
