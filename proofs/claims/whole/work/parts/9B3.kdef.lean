/-! PURE: schemas out of a text's rows -/
/-- counters (0 looked at, 1 schemas, 2 kids, 3 parts, 4 fields done, 5 defaults waiting, 6 bytes in the pool, 7 twice what the defaults have paid); rows; rows of the schemas' parts (0 kid, 1 schema, 2 name, 3 default, 4 the name's place in the pool) -/
abbrev kP : Type := (Nat → Nat) × (Nat → Nat → Nat) × (Nat → Nat → Nat → Nat)
def kU {α : Type} (f : Nat → α) (k : Nat) (v : α) : Nat → α := fun j => if j = k then v else f j
def kC (q : kP) (k v : Nat) : kP := (kU q.1 k v, q.2.1, q.2.2)
def kQ (q : kP) (r i v : Nat) : kP := (q.1, a2 q.2.1 r i v, q.2.2)
def kX (q : kP) (r s i v : Nat) : kP := (q.1, q.2.1, fun r' s' i' => if r' = r ∧ s' = s ∧ i' = i then v else q.2.2 r' s' i')
/-- the words -/
def kWs (k : Nat) : List Nat :=
  if k = 0 then [110, 117, 108, 108] else if k = 1 then [98, 111, 111, 108, 101, 97, 110] else if k = 2 then [105, 110, 116] else if k = 3 then [108, 111, 110, 103]
  else if k = 4 then [98, 121, 116, 101, 115] else if k = 5 then [115, 116, 114, 105, 110, 103] else if k = 6 then [97, 114, 114, 97, 121] else if k = 7 then [109, 97, 112]
  else if k = 9 then [102, 105, 120, 101, 100] else if k = 10 then [101, 110, 117, 109] else if k = 11 then [114, 101, 99, 111, 114, 100] else if k = 12 then [116, 121, 112, 101]
  else if k = 13 then [105, 116, 101, 109, 115] else if k = 14 then [118, 97, 108, 117, 101, 115] else if k = 15 then [110, 97, 109, 101] else if k = 16 then [115, 105, 122, 101]
  else if k = 17 then [115, 121, 109, 98, 111, 108, 115] else if k = 18 then [100, 101, 102, 97, 117, 108, 116] else if k = 19 then [102, 105, 101, 108, 100, 115] else []
def jTw (T : Nat → Nat → Nat) (v : Nat) (W : List Nat) : Bool := jTb T v W.length (fun i => W.getD i 0)
/-- the value of a member (one more; 0: none) -/
def kMv (T : Nat → Nat → Nat) (t : Nat → Bool) (v : Nat) : Nat := if jFd T t (T 2 v / 2) (T 3 v) = 0 then 0 else T 4 (jFd T t (T 2 v / 2) (T 3 v) - 1)
def kMb (T : Nat → Nat → Nat) (v : Nat) (W : List Nat) : Nat := kMv T (fun k => jTw T k W) v
def kMl (T : Nat → Nat → Nat) (v x : Nat) : Nat := kMv T (fun k => jSm T k x) v
/-- the first that passes (one more; 0: none) -/
def kFr (t : Nat → Bool) : Nat → Nat → Nat
  | 0, _ => 0
  | m + 1, lo => if t lo then lo + 1 else kFr t m (lo + 1)
def kWd (T : Nat → Nat → Nat) (v : Nat) : Nat := kFr (fun k => jTw T v (kWs k)) 6 0
def kKt (T : Nat → Nat → Nat) (v : Nat) : Nat := kFr (fun k => !(k == 8) && jTw T v (kWs k)) 12 0
def kDf (T : Nat → Nat → Nat) (q : kP) (v : Nat) : Nat := kFr (fun s => !(q.2.1 1 s == 0) && jSm T (q.2.1 1 s - 1) v) (q.1 1 - 6) 6
/-- which part of a schema has that name -/
def kPt (T : Nat → Nat → Nat) (q : kP) (s n v : Nat) : Nat := kFr (fun i => jSm T (q.2.2 2 s i - 1) v) n 0
abbrev kLt (b i : Nat) : Prop := 97 ≤ b ∧ b ≤ 122 ∨ 65 ≤ b ∧ b ≤ 90 ∨ b = 95 ∨ 48 ≤ b ∧ b ≤ 57 ∧ i ≠ 0
def kNam (T : Nat → Nat → Nat) (v : Nat) : Bool := decide (T 0 v = 2 ∧ 0 < T 2 v ∧ T 2 v < 33 ∧ ∀ i, i < T 2 v → kLt (T 6 (T 5 v + i)) i)
/-! what is added -/
def kSh (k : Nat) (q : kP) : kP := (kU q.1 1 (q.1 1 + 1), fun r i => if i = q.1 1 then (if r = 0 then k else if r = 1 ∨ r = 4 ∨ r = 7 ∨ r = 8 ∨ r = 13 ∨ r = 18 then 0 else if r = 6 then q.1 3 else q.2.1 r i) else q.2.1 r i, q.2.2)
def kAp (s n : Nat) (q : kP) : kP := (kU q.1 3 (q.1 3 + n), fun r i => if r = 6 ∧ i = s then q.1 3 else if r = 7 ∧ i = s then n else if (r = 30 ∨ r = 31 ∨ r = 32 ∨ r = 33) ∧ q.1 3 ≤ i ∧ i < q.1 3 + n then 0 else if r = 34 ∧ q.1 3 ≤ i ∧ i < q.1 3 + n then s else if r = 35 ∧ q.1 3 ≤ i ∧ i < q.1 3 + n then i - q.1 3 else q.2.1 r i, q.2.2)
/-- a new kid of a schema (24, 25: whose, which) -/
def kAk (s : Nat) (q : kP) : kP := (kU q.1 2 (q.1 2 + 1),
  fun r i => if i = q.1 2 ∧ (r = 20 ∨ r = 21 ∨ r = 22 ∨ r = 23) then 0 else if i = q.1 2 ∧ r = 24 then s else if i = q.1 2 ∧ r = 25 then q.2.1 4 s else if r = 4 ∧ i = s then q.2.1 4 s + 1 else if r = 13 ∧ i = s ∧ q.2.1 4 s = 0 then q.1 2 + 1 else if r = 23 ∧ q.2.1 4 s ≠ 0 ∧ i = q.2.2 0 s (q.2.1 4 s - 1) then q.1 2 + 1 else q.2.1 r i,
  fun r s' i => if s' = s ∧ i = q.2.1 4 s ∧ r ≤ 3 then (if r = 0 then q.1 2 else 0) else q.2.2 r s' i)
/-- a name's letters behind the pool -/
def kPn (T : Nat → Nat → Nat) (x : Nat) (q : kP) : kP := (kU q.1 6 (q.1 6 + 1 + T 2 x), fun r i => if r = 40 ∧ i = q.1 6 then T 2 x else if r = 40 ∧ q.1 6 < i ∧ i ≤ q.1 6 + T 2 x then T 6 (T 5 x + (i - q.1 6 - 1)) else q.2.1 r i, q.2.2)
/-- a schema's name -/
def kNn (T : Nat → Nat → Nat) (s x : Nat) (q : kP) : kP := kQ (kQ (kPn T x q) 1 s (x + 1)) 9 s (q.1 6)
/-- a part's name -/
def kSn (T : Nat → Nat → Nat) (s i x : Nat) (q : kP) : kP := kX (kX (kQ (kQ (kPn T x q) 21 (q.2.2 0 s i) (x + 1)) 31 (q.2.1 6 s + i) (q.1 6 + 1)) 2 s i (x + 1)) 4 s i (q.1 6)
/-- a field's default -/
def kSd (s i dv : Nat) (q : kP) : kP := kX (kQ q 22 (q.2.2 0 s i) dv) 3 s i dv
/-- a part's schema; an array's or a map's -/
def kSs (s i x : Nat) (q : kP) : kP := kX (kQ (kQ q 20 (q.2.2 0 s i) (x + 1)) 30 (q.2.1 6 s + i) (x + 1)) 1 s i (x + 1)
def kSi (s x : Nat) (q : kP) : kP := kX (kQ (kQ q 20 (q.2.2 0 s 0) (x + 1)) 18 s (x + 1)) 1 s 0 (x + 1)
/-- a field is done -/
def kFd (T : Nat → Nat → Nat) (s i x dv : Nat) (q : kP) : kP :=
  let q1 := kC (kQ (kQ q 15 (q.1 4) (q.2.2 0 s i)) 27 (q.1 4) (q.1 5)) 4 (q.1 4 + 1)
  if dv = 0 then q1 else kC (kC (kQ (kQ (kQ q1 16 (q.1 5) (dv - 1)) 17 (q.1 5) (q.2.1 6 s + i)) 19 (q.1 5) x) 5 (q.1 5 + 1)) 7 (q.1 7 + 2 * kWv T (dv - 1))
/-! the schema of a value -/
abbrev kE : Type := Except (Nat × Nat) (kP × Nat)
abbrev kR : Type := Nat → Bool → kP → kE
def kAl (q : kP) (x y : Nat) : Bool := decide (x = y ∨ q.2.1 0 x = q.2.1 0 y ∧ (q.2.1 0 x = 6 ∨ q.2.1 0 x = 7))
def kUl (T : Nat → Nat → Nat) (rec : kR) (s : Nat) : Nat → Nat → kP → Except (Nat × Nat) kP
  | 0, _, q => .ok q
  | m + 1, cur, q =>
    match rec (cur - 1) true q with
    | .error e => .error e
    | .ok (q1, x) => if kFr (fun i => kAl q1 (q1.2.2 1 s i - 1) x) (q1.2.1 4 s) 0 = 0 then kUl T rec s m (T 4 (cur - 1)) (kSs s (q1.2.1 4 s) x (kAk s q1)) else .error (6, T 1 (cur - 1))
def kYl (T : Nat → Nat → Nat) (s : Nat) : Nat → Nat → kP → Except (Nat × Nat) kP
  | 0, _, q => .ok q
  | m + 1, cur, q => if kNam T (cur - 1) = true ∧ kPt T q s (q.2.1 4 s) (cur - 1) = 0 then kYl T s m (T 4 (cur - 1)) (kSn T s (q.2.1 4 s) (cur - 1) (kAk s q)) else .error (11, T 1 (cur - 1))
def kFl (T : Nat → Nat → Nat) (rec : kR) (s : Nat) : Nat → Nat → kP → Except (Nat × Nat) kP
  | 0, _, q => .ok q
  | m + 1, cur, q =>
    if T 0 (cur - 1) = 0 then
      if kMb T (cur - 1) (kWs 15) ≠ 0 ∧ T 0 (kMb T (cur - 1) (kWs 15) - 1) = 2 then
        if kNam T (kMb T (cur - 1) (kWs 15) - 1) = true ∧ kPt T q s (q.2.1 4 s) (kMb T (cur - 1) (kWs 15) - 1) = 0 then
          if kMb T (cur - 1) (kWs 12) ≠ 0 then
            match rec (kMb T (cur - 1) (kWs 12) - 1) false (kSd s (q.2.1 4 s) (kMb T (cur - 1) (kWs 18)) (kSn T s (q.2.1 4 s) (kMb T (cur - 1) (kWs 15) - 1) (kAk s q))) with
            | .error e => .error e
            | .ok (q1, x) => kFl T rec s m (T 4 (cur - 1)) (kFd T s (q.2.1 4 s) x (kMb T (cur - 1) (kWs 18)) (kSs s (q.2.1 4 s) x q1))
          else .error (8, T 1 (cur - 1))
        else .error (9, T 1 (kMb T (cur - 1) (kWs 15) - 1))
      else .error (8, T 1 (cur - 1))
    else .error (11, T 1 (cur - 1))
def kFx (T : Nat → Nat → Nat) (N : Nat → Int) (v s : Nat) (q : kP) : kE :=
  if kMb T v (kWs 16) = 0 then .error (8, T 1 v)
  else if T 0 (kMb T v (kWs 16) - 1) = 3 ∧ 0 ≤ N (kMb T v (kWs 16) - 1) ∧ N (kMb T v (kWs 16) - 1) ≤ 64 then .ok (kQ q 8 s ((N (kMb T v (kWs 16) - 1)).toNat + 1), s)
  else .error (10, T 1 (kMb T v (kWs 16) - 1))
def kEn (T : Nat → Nat → Nat) (v s : Nat) (q : kP) : kE :=
  if kMb T v (kWs 17) = 0 then .error (8, T 1 v)
  else if T 0 (kMb T v (kWs 17) - 1) = 1 ∧ 0 < T 2 (kMb T v (kWs 17) - 1) ∧ T 2 (kMb T v (kWs 17) - 1) < 33 then
    match kYl T s (T 2 (kMb T v (kWs 17) - 1)) (T 3 (kMb T v (kWs 17) - 1)) (kAp s (T 2 (kMb T v (kWs 17) - 1)) q) with
    | .error e => .error e
    | .ok q2 =>
      if kMb T v (kWs 18) = 0 then .ok (q2, s)
      else if T 0 (kMb T v (kWs 18) - 1) = 2 ∧ kPt T q2 s (q2.2.1 4 s) (kMb T v (kWs 18) - 1) ≠ 0 then .ok (kQ q2 8 s (kPt T q2 s (q2.2.1 4 s) (kMb T v (kWs 18) - 1)), s)
      else .error (12, T 1 (kMb T v (kWs 18) - 1))
  else .error (11, T 1 (kMb T v (kWs 17) - 1))
def kRc (T : Nat → Nat → Nat) (rec : kR) (v s : Nat) (q : kP) : kE :=
  if kMb T v (kWs 19) = 0 then .error (8, T 1 v)
  else if T 0 (kMb T v (kWs 19) - 1) = 1 ∧ T 2 (kMb T v (kWs 19) - 1) < 33 then
    match kFl T rec s (T 2 (kMb T v (kWs 19) - 1)) (T 3 (kMb T v (kWs 19) - 1)) (kAp s (T 2 (kMb T v (kWs 19) - 1)) q) with
    | .error e => .error e
    | .ok q2 => .ok (q2, s)
  else .error (11, T 1 (kMb T v (kWs 19) - 1))
def kNa (T : Nat → Nat → Nat) (N : Nat → Int) (rec : kR) (v k : Nat) (q : kP) : kE :=
  if kMb T v (kWs 15) ≠ 0 ∧ T 0 (kMb T v (kWs 15) - 1) = 2 then
    if kNam T (kMb T v (kWs 15) - 1) = true ∧ kKt T (kMb T v (kWs 15) - 1) = 0 ∧ kDf T q (kMb T v (kWs 15) - 1) = 0 then
      if k = 9 then kFx T N v (q.1 1) (kNn T (q.1 1) (kMb T v (kWs 15) - 1) (kSh k q))
      else if k = 10 then kEn T v (q.1 1) (kNn T (q.1 1) (kMb T v (kWs 15) - 1) (kSh k q))
      else kRc T rec v (q.1 1) (kNn T (q.1 1) (kMb T v (kWs 15) - 1) (kSh k q))
    else .error (9, T 1 (kMb T v (kWs 15) - 1))
  else .error (8, T 1 v)
def kCl (T : Nat → Nat → Nat) (rec : kR) (v k : Nat) (q : kP) : kE :=
  if kMb T v (kWs (k + 7)) = 0 then .error (8, T 1 v)
  else match rec (kMb T v (kWs (k + 7)) - 1) false (kAk (q.1 1) (kSh k q)) with
    | .error e => .error e
    | .ok (q1, x) => .ok (kSi (q.1 1) x q1, q.1 1)
def kKn (T : Nat → Nat → Nat) (v : Nat) (q : kP) : kE :=
  if kWd T v ≠ 0 then .ok (q, kWd T v - 1) else if kDf T q v ≠ 0 then .ok (q, kDf T q v - 1) else .error (3, T 1 v)
def kOb (T : Nat → Nat → Nat) (N : Nat → Int) (rec : kR) (v : Nat) (q : kP) : kE :=
  if kMb T v (kWs 12) ≠ 0 ∧ T 0 (kMb T v (kWs 12) - 1) = 2 then
    if kKt T (kMb T v (kWs 12) - 1) = 7 ∨ kKt T (kMb T v (kWs 12) - 1) = 8 then kCl T rec v (kKt T (kMb T v (kWs 12) - 1) - 1) q
    else if 9 < kKt T (kMb T v (kWs 12) - 1) then kNa T N rec v (kKt T (kMb T v (kWs 12) - 1) - 1) q
    else kKn T (kMb T v (kWs 12) - 1) q
  else .error (7, T 1 v)
def kUn (T : Nat → Nat → Nat) (rec : kR) (v : Nat) (q : kP) : kE :=
  if 0 < T 2 v ∧ T 2 v < 17 then
    match kUl T rec (q.1 1) (T 2 v) (T 3 v) (kAp (q.1 1) (T 2 v) (kSh 8 q)) with
    | .error e => .error e
    | .ok q2 => .ok (q2, q.1 1)
  else .error (5, T 1 v)
def kBd (T : Nat → Nat → Nat) (N : Nat → Int) (rec : kR) (v : Nat) (br : Bool) (q : kP) : kE :=
  if T 0 v = 2 then kKn T v q
  else if T 0 v = 1 then (if br then .error (4, T 1 v) else kUn T rec v q)
  else if T 0 v = 0 then kOb T N rec v q
  else .error (2, T 1 v)
def kSo (T : Nat → Nat → Nat) (N : Nat → Int) : Nat → kR
  | 0, v, _, q => if q.1 0 < 128 then .error (14, T 1 v) else .error (13, T 1 v)
  | D + 1, v, br, q => if q.1 0 < 128 then kBd T N (kSo T N D) v br (kC q 0 (q.1 0 + 1)) else .error (13, T 1 v)
def kP0 : kP := (fun k => if k = 1 then 6 else 0, fun r i => if r = 0 then i else 0, fun _ _ _ => 0)
