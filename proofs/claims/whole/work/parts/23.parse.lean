/-! the reader of the class as a function: T the codes, n how many -/
def pr_se (T : Nat → Nat) (n p c : Nat) : Bool := decide (p < n ∧ T p = c)
def pr_dg (T : Nat → Nat) (n p : Nat) : Bool := decide (p < n ∧ 48 ≤ T p ∧ T p ≤ 57)
def pr_lt (T : Nat → Nat) (n p : Nat) : Bool := decide (p < n ∧ 97 ≤ T p ∧ T p ≤ 102)
def pr_num (T : Nat → Nat) (n : Nat) : Nat → Nat → Nat → Nat × Nat
  | 0, p, v => (p, v)
  | k + 1, p, v => if pr_dg T n p = true then pr_num T n k (p + 1) (v * 10 + (T p - 48)) else (p, v)
def pr_let (T : Nat → Nat) (n : Nat) : Nat → Nat → Nat → Nat × Nat
  | 0, p, m => (p, m)
  | k + 1, p, m => if pr_lt T n p = true ∧ m.testBit (T p - 97) = false then pr_let T n k (p + 1) (m ||| 2 ^ (T p - 97)) else (p, m)
abbrev pr_R : Type := Nat × Option (Nat × (Nat → Int))
def pr_bun (v m : Nat) : Nat → Int := fun s => if s &&& m = m then v else 0
def pr_bundle (T : Nat → Nat) (n p c : Nat) : pr_R :=
  if 12 ≤ c then (p, none) else if pr_dg T n p = false then (p, none) else
    if (pr_let T n 6 (pr_num T n 3 p 0).1 0).2 = 0 then ((pr_let T n 6 (pr_num T n 3 p 0).1 0).1, none)
    else ((pr_let T n 6 (pr_num T n 3 p 0).1 0).1, some (c + 1, pr_bun (pr_num T n 3 p 0).2 (pr_let T n 6 (pr_num T n 3 p 0).1 0).2))
def pr_atom (T : Nat → Nat) (n : Nat) (B : Option (Nat → Nat → pr_R)) (p c : Nat) : pr_R :=
  if pr_se T n p 40 = false then pr_bundle T n p c else match B with
    | none => (p, none)
    | some f => match f (p + 1) c with
      | (q, none) => (q, none)
      | (q, some r) => if pr_se T n q 41 = true then (q + 1, some r) else (q, none)
def pr_capl (T : Nat → Nat) (n : Nat) : Nat → Nat → Nat → (Nat → Int) → pr_R
  | 0, p, _, _ => (p, none)
  | k + 1, p, c, v => if pr_se T n p 60 = false then (p, some (c, v)) else if 12 ≤ c then (p, none) else
      if pr_dg T n (p + 1) = false then (p + 1, none) else pr_capl T n k (pr_num T n 3 (p + 1) 0).1 (c + 1) (fun s => min (v s) (pr_num T n 3 (p + 1) 0).2)
def pr_cap (T : Nat → Nat) (n : Nat) (B : Option (Nat → Nat → pr_R)) (p c : Nat) : pr_R := match pr_atom T n B p c with
  | (q, none) => (q, none)
  | (q, some r) => pr_capl T n 13 q r.1 r.2
def pr_suml (T : Nat → Nat) (n : Nat) (B : Option (Nat → Nat → pr_R)) : Nat → Nat → Nat → (Nat → Int) → pr_R
  | 0, p, _, _ => (p, none)
  | k + 1, p, c, acc => match pr_cap T n B p c with
    | (q, none) => (q, none)
    | (q, some r) => if pr_se T n q 43 = false then (q, some (r.1, jn acc r.2)) else if 12 ≤ r.1 then (q, none) else pr_suml T n B k (q + 1) (r.1 + 1) (jn acc r.2)
def pr_sum (T : Nat → Nat) (n : Nat) (B : Option (Nat → Nat → pr_R)) (p c : Nat) : pr_R := pr_suml T n B 13 p c (fun _ => 0)
def pr_bidl (T : Nat → Nat) (n : Nat) (B : Option (Nat → Nat → pr_R)) : Nat → Nat → Nat → (Nat → Int) → pr_R
  | 0, p, _, _ => (p, none)
  | k + 1, p, c, acc => match pr_sum T n B p c with
    | (q, none) => (q, none)
    | (q, some r) => if pr_se T n q 94 = false then (q, some (r.1, fun s => max (acc s) (r.2 s))) else if 12 ≤ r.1 then (q, none) else pr_bidl T n B k (q + 1) (r.1 + 1) (fun s => max (acc s) (r.2 s))
def pr_bid (T : Nat → Nat) (n : Nat) (B : Option (Nat → Nat → pr_R)) (p c : Nat) : pr_R := pr_bidl T n B 13 p c (fun _ => 0)
def pr_bidk (T : Nat → Nat) (n : Nat) : Nat → Nat → Nat → pr_R
  | 0, p, c => pr_bid T n none p c
  | k + 1, p, c => pr_bid T n (some (pr_bidk T n k)) p c
