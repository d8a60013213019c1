/-! PURE: what a text of a valley says: the first byte with which none begins so, or its sum (by the six numbers of a test) and what it learns -/
abbrev s_V : Type := (Nat → Int32) → Bool
def s_at (t : Nat → Int32) (n p : Nat) (c : Int32) : Bool := decide (p < n) && decide (t p = c)
def s_dig (t : Nat → Int32) (n p : Nat) : Bool := decide (p < n) && (decide ((48 : Int32) ≤ t p) && decide (t p ≤ (57 : Int32)))
def s_num (t : Nat → Int32) (n p : Nat) : Except Nat (Int32 × Nat) :=
  if s_dig t n p = true then (if s_dig t n (p + 1) = true then .ok ((10 : Int32) * (t p - 48) + t (p + 1) - 48, p + 2) else .ok (t p - 48, p + 1)) else .error p
/-- which of p k v x l a -/
def s_let (t : Nat → Int32) (n p : Nat) : Option Nat :=
  if s_at t n p 112 = true then some 0 else if s_at t n p 107 = true then some 1 else if s_at t n p 118 = true then some 2 else if s_at t n p 120 = true then some 3 else if s_at t n p 108 = true then some 4 else if s_at t n p 97 = true then some 5 else none
/-- which of < = > -/
def s_rel (t : Nat → Int32) (n p : Nat) : Option Nat :=
  if s_at t n p 60 = true then some 0 else if s_at t n p 61 = true then some 1 else if s_at t n p 62 = true then some 2 else none
def s_cmp (r : Nat) (x y : Int32) : Bool := if r = 0 then decide (x < y) else if r = 1 then decide (x = y) else decide (y < x)
def s_test (t : Nat → Int32) (n p : Nat) : Except Nat (s_V × Nat) :=
  match s_let t n p with
  | none => .error p
  | some a => match s_rel t n (p + 1) with
    | none => .error (p + 1)
    | some r => match s_num t n (p + 2) with
      | .error q => .error q
      | .ok (x, q) => .ok (fun e => s_cmp r (e a) x, q)
/-- one more behind every & -/
def s_bothL (t : Nat → Int32) (n : Nat) (f : Nat → Except Nat (s_V × Nat)) : Nat → s_V → Nat → Except Nat (s_V × Nat)
  | 0, v, p => .ok (v, p)
  | k + 1, v, p => if s_at t n p 38 = true then (match f (p + 1) with
    | .error q => .error q
    | .ok (w, q) => s_bothL t n f k (fun e => v e && w e) q) else .ok (v, p)
def s_both (t : Nat → Int32) (n : Nat) (f : Nat → Except Nat (s_V × Nat)) (p : Nat) : Except Nat (s_V × Nat) :=
  match f p with
  | .error q => .error q
  | .ok (v, q) => s_bothL t n f n v q
def s_anyL (t : Nat → Int32) (n : Nat) (f : Nat → Except Nat (s_V × Nat)) : Nat → s_V → Nat → Except Nat (s_V × Nat)
  | 0, v, p => .ok (v, p)
  | k + 1, v, p => if s_at t n p 124 = true then (match s_both t n f (p + 1) with
    | .error q => .error q
    | .ok (w, q) => s_anyL t n f k (fun e => v e || w e) q) else .ok (v, p)
def s_any (t : Nat → Int32) (n : Nat) (f : Nat → Except Nat (s_V × Nat)) (p : Nat) : Except Nat (s_V × Nat) :=
  match s_both t n f p with
  | .error q => .error q
  | .ok (v, q) => s_anyL t n f n v q
/-- F, where k more ( or ! may stand within -/
def s_fac (t : Nat → Int32) (n : Nat) : Nat → Nat → Except Nat (s_V × Nat)
  | 0, p => s_test t n p
  | k + 1, p => if s_at t n p 33 = true then (match s_fac t n k (p + 1) with
    | .error q => .error q
    | .ok (v, q) => .ok (fun e => !v e, q))
    else if s_at t n p 40 = true then (match s_any t n (s_fac t n k) (p + 1) with
    | .error q => .error q
    | .ok (v, q) => if s_at t n q 41 = true then .ok (v, q + 1) else .error q)
    else s_test t n p
/-- signs one behind the other -/
def s_wd (t : Nat → Int32) (n : Nat) : List Int32 → Nat → Except Nat Nat
  | [], p => .ok p
  | c :: l, p => if s_at t n p c = true then s_wd t n l (p + 1) else .error p
/-- a clause: what it adds, what it learns (if it does) -/
def s_clause (t : Nat → Int32) (n p : Nat) : Except Nat (((Nat → Int32) → Int32) × Option Int32 × Nat) :=
  let go (sg : Int32) (l : List Int32) : Except Nat (((Nat → Int32) → Int32) × Option Int32 × Nat) :=
    match s_wd t n l p with
    | .error q => .error q
    | .ok q => match s_num t n q with
      | .error q => .error q
      | .ok (x, q) => if s_at t n q 32 = true then (match s_any t n (s_fac t n 4) (q + 1) with
        | .error q => .error q
        | .ok (v, q) => .ok (fun e => if v e = true then sg * x else 0, none, q)) else .error q
  if s_at t n p 115 = true then go 1 [115, 117, 105, 116, 32]
  else if s_at t n p 106 = true then go (-1) [106, 97, 114, 32]
  else match s_wd t n [108, 101, 97, 114, 110, 32] p with
    | .error q => .error q
    | .ok q => match s_num t n q with
      | .error q => .error q
      | .ok (x, q) => .ok (fun _ => 0, some x, q)
/-- k clauses at most from here on -/
def s_all (t : Nat → Int32) (n : Nat) : Nat → ((Nat → Int32) → Int32) → Int32 → Nat → Except Nat (((Nat → Int32) → Int32) × Int32)
  | 0, _, _, p => .error p
  | k + 1, w, z, p => match s_clause t n p with
    | .error q => .error q
    | .ok (u, y, q) => if n ≤ q then .ok (fun e => w e + u e, y.getD z) else if k = 0 then .error q else if s_at t n q 59 = true then s_all t n k (fun e => w e + u e) (y.getD z) (q + 1) else .error q
def s_text (t : Nat → Int32) (n : Nat) : Except Nat (((Nat → Int32) → Int32) × Int32) := s_all t n 10 (fun _ => 0) 0 0
/-- the class's steps, one behind the other -/
def s_ev (op rel num : Nat → Int32) (e : Nat → Int32) : Nat → Nat → Int32 → Int32 → Int32
  | 0, _, w, _ => w
  | k + 1, i, w, b =>
    if op i = 6 then s_ev op rel num e k (i + 1) w (b ^^^ 1)
    else if op i = 7 then s_ev op rel num e k (i + 1) w ((b >>> (1 : Int32)) &&& (b ||| (-2)))
    else if op i = 8 then s_ev op rel num e k (i + 1) w ((b >>> (1 : Int32)) ||| (b &&& 1))
    else if op i = 9 then s_ev op rel num e k (i + 1) (w + (b &&& 1) * num i) 0
    else s_ev op rel num e k (i + 1) w ((b <<< (1 : Int32)) ||| (if s_cmp (rel i).toNatClampNeg (e (op i).toNatClampNeg) (num i) = true then 1 else 0))
