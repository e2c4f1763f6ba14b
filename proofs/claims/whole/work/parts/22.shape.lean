/-! the cells behind both constructors: where they lie, what they are -/
def SH (L : Nat) : am_S := fun a => match a with
  | 0 => (3, 11, fun k => match k with | 0 => some 1 | 1 => some 2 | 2 => some 3 | 3 => some 4 | 4 => some 5 | 5 => some 6 | 6 => some 7 | 7 => some 13 | 8 => some 36 | _ => none)
  | 1 => (0, 5, fun _ => none)
  | 2 => (0, 5, fun _ => none)
  | 3 => (0, 6, fun _ => none)
  | 4 => (0, 6, fun _ => none)
  | 5 => (0, 5, fun _ => none)
  | 6 => (0, 5, fun _ => none)
  | 7 => (2, 5, fun j => if j < 5 then some (8 + j) else none)
  | 8 => (0, 64, fun _ => none)
  | 9 => (0, 64, fun _ => none)
  | 10 => (0, 64, fun _ => none)
  | 11 => (0, 64, fun _ => none)
  | 12 => (0, 64, fun _ => none)
  | 13 => (4, 8, fun k => match k with | 0 => some 14 | 5 => some 15 | 6 => some 16 | 7 => some 26 | _ => none)
  | 14 => (1, 40, fun _ => none)
  | 15 => (0, 64, fun _ => none)
  | 16 => (2, 9, fun j => if j < 9 then some (17 + j) else none)
  | 17 => (0, 64, fun _ => none)
  | 18 => (0, 64, fun _ => none)
  | 19 => (0, 64, fun _ => none)
  | 20 => (0, 64, fun _ => none)
  | 21 => (0, 64, fun _ => none)
  | 22 => (0, 64, fun _ => none)
  | 23 => (0, 64, fun _ => none)
  | 24 => (0, 64, fun _ => none)
  | 25 => (0, 64, fun _ => none)
  | 26 => (2, 9, fun j => if j < 9 then some (27 + j) else none)
  | 27 => (0, 64, fun _ => none)
  | 28 => (0, 64, fun _ => none)
  | 29 => (0, 64, fun _ => none)
  | 30 => (0, 64, fun _ => none)
  | 31 => (0, 64, fun _ => none)
  | 32 => (0, 64, fun _ => none)
  | 33 => (0, 64, fun _ => none)
  | 34 => (0, 64, fun _ => none)
  | 35 => (0, 64, fun _ => none)
  | 36 => (5, 3, fun k => match k with | 0 => some 37 | 1 => some 38 | 2 => some 39 | _ => none)
  | 37 => (0, 64, fun _ => none)
  | 38 => (0, 64, fun _ => none)
  | 39 => (0, 64, fun _ => none)
  | 40 => (6, 19, fun k => match k with | 1 => some 41 | 2 => some 42 | 4 => some 43 | 6 => some 44 | 7 => some 45 | 8 => some 46 | 9 => some 47 | 11 => some 48 | 12 => some 49 | 16 => some 50 | 17 => some 51 | 18 => some 52 | _ => none)
  | 41 => (0, 5, fun _ => none)
  | 42 => (0, 5, fun _ => none)
  | 43 => (0, 6, fun _ => none)
  | 44 => (0, 40, fun _ => none)
  | 45 => (0, 320, fun _ => none)
  | 46 => (0, 5, fun _ => none)
  | 47 => (0, 832, fun _ => none)
  | 48 => (0, 64, fun _ => none)
  | 49 => (0, 40, fun _ => none)
  | 50 => (0, 5, fun _ => none)
  | 51 => (0, 6, fun _ => none)
  | 52 => (0, 5, fun _ => none)
  | 1000 => (0, L, fun _ => none)
  | 1001 => (0, 6, fun _ => none)
  | _ => (0, 0, fun _ => none)
theorem SH_w (L : Nat) : ∀ b, b < 5 → SH L (8 + b) = (0, 64, fun _ => none) := by
  intro b hb
  have h : b = 0 ∨ b = 1 ∨ b = 2 ∨ b = 3 ∨ b = 4 := by omega
  rcases h with rfl | rfl | rfl | rfl | rfl <;> rfl
theorem SH_c (L : Nat) : ∀ b, b < 9 → SH L (17 + b) = (0, 64, fun _ => none) := by
  intro b hb
  have h : b = 0 ∨ b = 1 ∨ b = 2 ∨ b = 3 ∨ b = 4 ∨ b = 5 ∨ b = 6 ∨ b = 7 ∨ b = 8 := by omega
  rcases h with rfl | rfl | rfl | rfl | rfl | rfl | rfl | rfl | rfl <;> rfl
theorem SH_s (L : Nat) : ∀ b, b < 9 → SH L (27 + b) = (0, 64, fun _ => none) := by
  intro b hb
  have h : b = 0 ∨ b = 1 ∨ b = 2 ∨ b = 3 ∨ b = 4 ∨ b = 5 ∨ b = 6 ∨ b = 7 ∨ b = 8 := by omega
  rcases h with rfl | rfl | rfl | rfl | rfl | rfl | rfl | rfl | rfl <;> rfl
/-- a contract behind the constructors; a walk there -/
def cM (l : Launch) (x : am_X) (dep L : Nat) (m : am_M) (as : List Value) (d : am_D) (Q : Option Value → am_D → Prop) : Prop := am_Met l K0 x dep 0 0 m as (SH L) 53 d (fun r S n d' => S = SH L ∧ n = 53 ∧ Q r d')
abbrev cQ (L : Nat) (Q : Option Value → am_D → Prop) : Option Value → am_S → Nat → am_D → Prop := fun r S n d' => S = SH L ∧ n = 53 ∧ Q r d'
abbrev cW (l : Launch) (x : am_X) (dep L : Nat) (m : am_M) (pc : Nat) (Ls : List (Option Value)) (st : List Value) (d : am_D) (Q : Option Value → am_D → Prop) : Prop := am_W l K0 x dep 0 0 m pc Ls st (SH L) 53 d (cQ L Q)
theorem cM.go {l : Launch} {x : am_X} {dep L : Nat} {m : am_M} {as : List Value} {d : am_D} {Q : Option Value → am_D → Prop} (hy : plainName m.1.cls = true) (hc : ∀ v ∈ as, v.category = 1) (hn : as.length ≤ m.2.2.1)
    (k : cW l x dep L m 0 (as.map some ++ List.replicate (m.2.2.1 - as.length) none) [] d Q) : cM l x dep L m as d Q := am_enter hy hc hn k
theorem cM.mono {l : Launch} {x : am_X} {dep L : Nat} {m : am_M} {as : List Value} {d : am_D} {Q Q' : Option Value → am_D → Prop} (h : cM l x dep L m as d Q) (hq : ∀ r d, Q r d → Q' r d) : cM l x dep L m as d Q' := am_Met.mono h (fun r _ _ d' z => ⟨z.1, z.2.1, hq r d' z.2.2⟩)
/-- one end -/
def cR (r0 : Option Value) (d0 : am_D) : Option Value → am_D → Prop := fun r d => r = r0 ∧ d = d0
def bI (b : Bool) : Int32 := if b = true then 1 else 0
theorem cR_in {L : Nat} {r0 r : Option Value} {d0 d : am_D} (h1 : r = r0) (h2 : d = d0) : cQ L (cR r0 d0) r (SH L) 53 d := ⟨rfl, rfl, h1, h2⟩
