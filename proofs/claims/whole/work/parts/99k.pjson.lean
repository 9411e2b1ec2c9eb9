/-! PURE: a text as rows of numbers -/
/-- the state of a reading: the place, how many values, how many letters, the rows (0 kind, 1 first byte, 2 how many inside or letters, 3 first inside, 4 next, 5 first letter, 6 letters, 7 how many values when it was whole; 3 and 4: one more, 0 none), the numbers -/
abbrev jP : Type := Nat × Nat × Nat × (Nat → Nat → Nat) × (Nat → Int)
def jBt (B : Nat → Nat) (n a : Nat) : Nat := if a < n then B a else 256
abbrev jBl (b : Nat) : Prop := b = 32 ∨ b = 9 ∨ b = 10 ∨ b = 13
abbrev jDi (b : Nat) : Prop := 48 ≤ b ∧ b ≤ 57
def jSkF (B : Nat → Nat) (n : Nat) : Nat → Nat → Nat
  | 0, a => a
  | f + 1, a => if jBl (jBt B n a) then jSkF B n f (a + 1) else a
def jSk (B : Nat → Nat) (n a : Nat) : Nat := jSkF B n n a
def jHx (b : Nat) : Nat := if 48 ≤ b ∧ b ≤ 57 then b - 48 else if 97 ≤ b ∧ b ≤ 102 then b - 87 else if 65 ≤ b ∧ b ≤ 70 then b - 55 else 16
def jH4 (B : Nat → Nat) (n : Nat) : Nat → Nat → Nat → Except Nat (Nat × Nat)
  | 0, v, a => .ok (v, a)
  | k + 1, v, a => if jHx (jBt B n a) < 16 then jH4 B n k (16 * v + jHx (jBt B n a)) (a + 1) else .error a
/-- the letter that a sign behind a backslash tells, 0 if none -/
def jE1 (b : Nat) : Nat := if b = 34 then 34 else if b = 92 then 92 else if b = 47 then 47 else if b = 98 then 8 else if b = 102 then 12 else if b = 110 then 10 else if b = 114 then 13 else if b = 116 then 9 else 0
def jEs (B : Nat → Nat) (n a : Nat) : Except Nat (Nat × Nat) :=
  if jE1 (jBt B n (a + 1)) ≠ 0 then .ok (jE1 (jBt B n (a + 1)), a + 2)
  else if jBt B n (a + 1) = 117 then
    match jH4 B n 4 0 (a + 2) with
    | .error e => .error e
    | .ok (v, a1) => if v < 256 then .ok (v, a1) else .error a
  else .error (a + 1)
def jSl (B : Nat → Nat) (n : Nat) : Nat → Nat → Nat → (Nat → Nat → Nat) → Except Nat (Nat × Nat × (Nat → Nat → Nat))
  | 0, a, _, _ => .error a
  | f + 1, a, l, T =>
    if jBt B n a = 34 then .ok (a + 1, l, T)
    else if jBt B n a < 32 ∨ 126 < jBt B n a then .error a
    else if jBt B n a = 92 then
      match jEs B n a with
      | .error e => .error e
      | .ok (v, a1) => jSl B n f a1 (l + 1) (a2 T 6 l v)
    else jSl B n f (a + 1) (l + 1) (a2 T 6 l (jBt B n a))
/-- a new value -/
def jNd (k : Nat) (p : jP) : jP := (p.1, p.2.1 + 1, p.2.2.1, a2 (a2 (a2 (a2 (a2 (a2 p.2.2.2.1 0 p.2.1 k) 1 p.2.1 p.1) 2 p.2.1 0) 3 p.2.1 0) 4 p.2.1 0) 5 p.2.1 0, fun i => if i = p.2.1 then 0 else p.2.2.2.2 i)
def jTo (p : jP) (a : Nat) : jP := (a, p.2)
def jSe (p : jP) (k i v : Nat) : jP := (p.1, p.2.1, p.2.2.1, a2 p.2.2.2.1 k i v, p.2.2.2.2)
def jStr (B : Nat → Nat) (n : Nat) (p : jP) : Except Nat (jP × Nat) :=
  match jSl B n (n + 1) (p.1 + 1) p.2.2.1 (a2 (jNd 2 p).2.2.2.1 5 p.2.1 p.2.2.1) with
  | .error e => .error e
  | .ok (a, l, T) => .ok ((a, p.2.1 + 1, l, a2 T 2 p.2.1 (l - p.2.2.1), (jNd 2 p).2.2.2.2), p.2.1)
def jDg (B : Nat → Nat) (n : Nat) : Nat → Nat → Nat → Nat × Nat
  | 0, m, a => (m, a)
  | f + 1, m, a => if jDi (jBt B n a) then jDg B n f (10 * m + (jBt B n a - 48)) (a + 1) else (m, a)
def jNa (B : Nat → Nat) (n a : Nat) : Nat := if jBt B n a = 45 then a + 1 else a
def jNr (B : Nat → Nat) (n a : Nat) : Nat × Nat := if jBt B n a = 48 then (0, a + 1) else jDg B n n 0 a
def jNm (B : Nat → Nat) (n a : Nat) : Nat := if jBt B n a = 45 then 9223372036854775808 else 9223372036854775807
def jNv (B : Nat → Nat) (n a m : Nat) : Int := if jBt B n a = 45 then - (m : Int) else (m : Int)
def jNu (B : Nat → Nat) (n : Nat) (p : jP) : Except Nat (jP × Nat) :=
  if jDi (jBt B n (jNa B n p.1)) then
    if (jNr B n (jNa B n p.1)).1 ≤ jNm B n p.1 then
      .ok (((jNr B n (jNa B n p.1)).2, p.2.1 + 1, p.2.2.1, a2 (jNd 3 p).2.2.2.1 2 p.2.1 ((jNr B n (jNa B n p.1)).2 - jNa B n p.1), fun i => if i = p.2.1 then jNv B n p.1 (jNr B n (jNa B n p.1)).1 else p.2.2.2.2 i), p.2.1)
    else .error p.1
  else .error (jNa B n p.1)
def jWl (B : Nat → Nat) (n : Nat) : List Nat → Nat → Except Nat Nat
  | [], a => .ok a
  | x :: r, a => if jBt B n a = x then jWl B n r (a + 1) else .error a
def jWd (B : Nat → Nat) (n : Nat) (k : Nat) (w : List Nat) (p : jP) : Except Nat (jP × Nat) :=
  match jWl B n w p.1 with
  | .error e => .error e
  | .ok a => .ok (jTo (jNd k p) a, p.2.1)
def jLf (B : Nat → Nat) (n : Nat) (p : jP) : Except Nat (jP × Nat) :=
  if jBt B n p.1 = 34 then jStr B n p
  else if jBt B n p.1 = 45 ∨ jDi (jBt B n p.1) then jNu B n p
  else if jBt B n p.1 = 116 then jWd B n 4 [116, 114, 117, 101] p
  else if jBt B n p.1 = 102 then jWd B n 5 [102, 97, 108, 115, 101] p
  else if jBt B n p.1 = 110 then jWd B n 6 [110, 117, 108, 108] p
  else .error p.1
/-- a value behind the last one inside another -/
def jLk (v last w : Nat) (p : jP) : jP :=
  let q := if last = 0 then jSe p 3 v (w + 1) else jSe p 4 (last - 1) (w + 1)
  jSe q 2 v (q.2.2.2.1 2 v + 1)
/-- behind a value: a comma (go on there), or what closes (stop there) -/
def jSp (B : Nat → Nat) (n cl a : Nat) : Except Nat (Bool × Nat) :=
  if jBt B n (jSk B n a) = 44 then .ok (true, jSk B n (jSk B n a + 1))
  else if jBt B n (jSk B n a) = cl then .ok (false, jSk B n a + 1)
  else .error (jSk B n a)
def jLs (B : Nat → Nat) (n : Nat) (val : jP → Except Nat (jP × Nat)) (v : Nat) : Nat → jP → Nat → Except Nat jP
  | 0, p, _ => .error p.1
  | f + 1, p, last =>
    match val p with
    | .error e => .error e
    | .ok (p1, w) =>
      match jSp B n 93 p1.1 with
      | .error e => .error e
      | .ok (true, a) => jLs B n val v f (jTo (jLk v last w p1) a) (w + 1)
      | .ok (false, a) => .ok (jTo (jLk v last w p1) a)
def jSm (T : Nat → Nat → Nat) (x y : Nat) : Bool := decide (T 2 x = T 2 y ∧ ∀ i, i < T 2 x → T 6 (T 5 x + i) = T 6 (T 5 y + i))
/-- the first of an object's strings that passes a test (one more; 0: none) -/
def jFd (T : Nat → Nat → Nat) (t : Nat → Bool) : Nat → Nat → Nat
  | 0, _ => 0
  | m + 1, cur => if cur = 0 then 0 else if t (cur - 1) then cur else jFd T t m (T 4 (T 4 (cur - 1) - 1))
def jOs (B : Nat → Nat) (n : Nat) (val : jP → Except Nat (jP × Nat)) (v : Nat) : Nat → jP → Nat → Except Nat jP
  | 0, p, _ => .error p.1
  | f + 1, p, last =>
    if jBt B n p.1 = 34 then
      match jStr B n p with
      | .error e => .error e
      | .ok (p1, key) =>
        if jFd p1.2.2.2.1 (fun k => jSm p1.2.2.2.1 k key) (p1.2.2.2.1 2 v / 2) (p1.2.2.2.1 3 v) = 0 then
          if jBt B n (jSk B n p1.1) = 58 then
            match val (jTo p1 (jSk B n (jSk B n p1.1 + 1))) with
            | .error e => .error e
            | .ok (p2, w) =>
              match jSp B n 125 p2.1 with
              | .error e => .error e
              | .ok (true, a) => jOs B n val v f (jTo (jLk v (key + 1) w (jLk v last key p2)) a) (w + 1)
              | .ok (false, a) => .ok (jTo (jLk v (key + 1) w (jLk v last key p2)) a)
          else .error (jSk B n p1.1)
        else .error (p1.2.2.2.1 1 key)
    else .error p.1
/-- a list or an object -/
def jCo (B : Nat → Nat) (n : Nat) (val : jP → Except Nat (jP × Nat)) (p : jP) : Except Nat (jP × Nat) :=
  if jBt B n p.1 = 123 then
    let p1 := jTo (jNd 0 p) (jSk B n (p.1 + 1))
    if jBt B n p1.1 = 125 then .ok (jSe (jTo p1 (p1.1 + 1)) 7 p.2.1 p1.2.1, p.2.1)
    else match jOs B n val p.2.1 (n + 1) p1 0 with
      | .error e => .error e
      | .ok p2 => .ok (jSe p2 7 p.2.1 p2.2.1, p.2.1)
  else
    let p1 := jTo (jNd 1 p) (jSk B n (p.1 + 1))
    if jBt B n p1.1 = 93 then .ok (jSe (jTo p1 (p1.1 + 1)) 7 p.2.1 p1.2.1, p.2.1)
    else match jLs B n val p.2.1 (n + 1) p1 0 with
      | .error e => .error e
      | .ok p2 => .ok (jSe p2 7 p.2.1 p2.2.1, p.2.1)
def jV (B : Nat → Nat) (n : Nat) : Nat → jP → Except Nat (jP × Nat)
  | 0, p => if jBt B n p.1 = 123 ∨ jBt B n p.1 = 91 then .error p.1 else jLf B n p
  | D + 1, p => if jBt B n p.1 = 123 ∨ jBt B n p.1 = 91 then jCo B n (jV B n D) p else jLf B n p
def jP0 : jP := (0, 0, 0, fun _ _ => 0, fun _ => 0)
/-- the whole text: the rows, the value, where it ends -/
def jRd (B : Nat → Nat) (n : Nat) : Except Nat (jP × Nat × Nat) :=
  match jV B n 24 (jTo jP0 (jSk B n 0)) with
  | .error e => .error e
  | .ok (p, v) => if jSk B n p.1 = n then .ok (p, v, p.1) else .error (jSk B n p.1)
