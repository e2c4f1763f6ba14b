/-! the reference's stacks end with the class's table -/
def fo (T : Nat → Nat) (n q : Nat) : Prop := pr_dg T n q = false ∧ pr_lt T n q = false
def eqv (f g : Tb) : Prop := ∀ s, s < 64 → f s = g s
theorem fo_at {T : Nat → Nat} {n q c : Nat} (h : pr_se T n q c = true) (hc : c = 41 ∨ c = 43 ∨ c = 60 ∨ c = 94) : fo T n q := by
  have z := (pr_se_lt h).2
  exact ⟨decide_eq_false (fun y => by omega), decide_eq_false (fun y => by omega)⟩
theorem jn_congr {f f' g g' : Tb} (hf : eqv f f') (hg : eqv g g') : eqv (jn f g) (jn f' g') := by
  have le : ∀ (a a' b b' : Tb), eqv a a' → eqv b b' → ∀ s, s < 64 → jn a b s ≤ jn a' b' s := fun a a' b b' ha hb s hs => by
    obtain ⟨p, hp, e⟩ := jn_is a b hs
    rw [e, ha p (sub_lt hs hp), hb (s - p) (by omega)]
    exact jn_ge a' b' hs hp
  exact fun s hs => Int.le_antisymm (le f f' g g' hf hg s hs) (le f' f g' g (fun s hs => (hf s hs).symm) (fun s hs => (hg s hs).symm) s hs)
theorem jn_0 {g : Tb} (hg : tb_ok g) : eqv (jn (fun _ => 0) g) g := fun s hs => by
  have h1 := jn_r (x := fun _ => 0) (y := g) tb_0 hs
  obtain ⟨p, hp, e⟩ := jn_is (fun _ => 0) g hs
  have h2 := hg.2 (s - p) s hs (sub_diff hs hp)
  omega
theorem Red_stop {all : Bool} {ts : List Tb} {ws : List Nat} (h : ∀ w r, ws = w :: r → ¬ (w = 43 ∨ (all = true ∧ w = 94))) : Red all ts ws ts ws := by
  cases ws with
  | nil => exact ⟨rfl, rfl⟩
  | cons w r => unfold Red; rw [if_neg (h w r rfl)]; exact ⟨rfl, rfl⟩
def RS (v : Tb) (ts : List Tb) (ws : List Nat) (ts' : List Tb) (ws' : List Nat) : Prop := (∃ v', eqv v' v ∧ ts' = v' :: ts ∧ ws' = ws) ∨ ∃ x y, eqv (jn x y) v ∧ ts' = y :: x :: ts ∧ ws' = 43 :: ws
def RB (v : Tb) (ts : List Tb) (ws : List Nat) (ts' : List Tb) (ws' : List Nat) : Prop := RS v ts ws ts' ws' ∨ ∃ x u, eqv (fun s => max (x s) (u s)) v ∧ RS u (x :: ts) (94 :: ws) ts' ws'
theorem RS.red {v : Tb} {ts ts' : List Tb} {ws ws' : List Nat} (h : RS v ts ws ts' ws') : ∃ v', eqv v' v ∧ ∀ all A B, Red all (v' :: ts) ws A B → Red all ts' ws' A B := by
  rcases h with ⟨v', h1, rfl, rfl⟩ | ⟨x, y, h1, rfl, rfl⟩
  · exact ⟨v', h1, fun _ _ _ z => z⟩
  · refine ⟨jw 43 x y, by rw [jw_43]; exact h1, fun all A B z => ?_⟩
    unfold Red
    rw [if_pos (Or.inl rfl)]
    exact ⟨y, x, ts, rfl, z⟩
theorem RS.to {v u : Tb} {ts ts' : List Tb} {ws ws' : List Nat} (h : RS v ts ws ts' ws') (e : eqv v u) : RS u ts ws ts' ws' := by
  rcases h with ⟨v', h1, h2⟩ | ⟨x, y, h1, h2⟩
  · exact Or.inl ⟨v', fun s hs => (h1 s hs).trans (e s hs), h2⟩
  · exact Or.inr ⟨x, y, fun s hs => (h1 s hs).trans (e s hs), h2⟩
def Wn (ws : List Nat) : Prop := ∀ w r, ws = w :: r → w ≠ 43
def Wb (ws : List Nat) : Prop := ∀ w r, ws = w :: r → w ≠ 43 ∧ w ≠ 94
theorem Red_f {ts : List Tb} {ws : List Nat} (h : Wn ws) : Red false ts ws ts ws := Red_stop (fun w r e z => z.elim (h w r e) (fun z => by cases z.1))
theorem Red_t {ts : List Tb} {ws : List Nat} (h : Wb ws) : Red true ts ws ts ws := Red_stop (fun w r e z => z.elim (h w r e).1 (fun z => (h w r e).2 z.2))
theorem Red_94 {x y : Tb} {ts : List Tb} {ws : List Nat} (h : Wb ws) : Red true (y :: x :: ts) (94 :: ws) (jw 94 x y :: ts) ws := by
  unfold Red
  rw [if_pos (Or.inr ⟨rfl, rfl⟩)]
  exact ⟨y, x, ts, rfl, Red_t h⟩
theorem Red_43 {x y : Tb} {ts : List Tb} {ws : List Nat} (h : Wn ws) : Red false (y :: x :: ts) (43 :: ws) (jw 43 x y :: ts) ws := by
  unfold Red
  rw [if_pos (Or.inl rfl)]
  exact ⟨y, x, ts, rfl, Red_f h⟩
theorem RB.red {v : Tb} {ts ts' : List Tb} {ws ws' : List Nat} (hw : Wb ws) (h : RB v ts ws ts' ws') : ∃ v', eqv v' v ∧ Red true ts' ws' (v' :: ts) ws := by
  rcases h with h | ⟨x, u, e, h⟩
  · obtain ⟨v', h1, h2⟩ := h.red
    exact ⟨v', h1, h2 _ _ _ (Red_t hw)⟩
  · obtain ⟨v', h1, h2⟩ := h.red
    refine ⟨jw 94 x v', fun s hs => ?_, h2 _ _ _ (Red_94 hw)⟩
    rw [jw_n (by decide), h1 s hs]
    exact e s hs
/-- the claim for a bid in brackets, or the whole -/
def BL (T : Nat → Nat) (n : Nat) (P : Nat → List Tb → List Nat → Prop) (f : Nat → Nat → pr_R) : Prop := ∀ p c ts ws q c' v, p ≤ n → c ≤ 12 → ts.length ≤ c → ws.length ≤ p → Wb ws → f p c = (q, some (c', v)) → fo T n q → (∀ ts' ws', RB v ts ws ts' ws' → P q ts' ws') → P p ts ws
theorem rd_bundle {T : Nat → Nat} {n : Nat} {vv : Tb} {P : Nat → List Tb → List Nat → Prop} (hP : rdR T n vv P) {p c q c' : Nat} {ts : List Tb} {ws : List Nat} {v : Tb} (hl : ts.length ≤ c) (h : pr_bundle T n p c = (q, some (c', v))) (hf : fo T n q) (kk : P q (v :: ts) ws) : P p ts ws := by
  unfold pr_bundle at h
  by_cases h12 : 12 ≤ c
  · rw [if_pos h12] at h; cases h
  · rw [if_neg h12] at h
    cases hg : pr_dg T n p with
    | false => rw [hg, if_pos rfl] at h; cases h
    | true =>
      rw [hg, if_neg (by decide)] at h
      by_cases hm : (pr_let T n 6 (pr_num T n 3 p 0).1 0).2 = 0
      · rw [if_pos hm] at h; cases h
      · rw [if_neg hm] at h
        have hd : pr_dg T n (pr_num T n 3 p 0).1 = false := by
          by_cases z : pr_dg T n (pr_num T n 3 p 0).1 = true
          · have z2 := pr_dg_lt z
            have e : pr_let T n 6 (pr_num T n 3 p 0).1 0 = ((pr_num T n 3 p 0).1, 0) := by
              rw [pr_let, if_neg (fun y => by have := pr_lt_lt y.1; omega)]
            exact absurd (by rw [e]) hm
          · simpa using z
        simp only [Prod.mk.injEq, Option.some.injEq] at h
        obtain ⟨h1, h2, h3⟩ := h
        refine hP.1 p ts ws (pr_num T n 3 p 0).1 (pr_num T n 3 p 0).2 q (pr_let T n 6 (pr_num T n 3 p 0).1 0).2 hg rfl hd ?_ hm hf.2 (by omega) ?_
        · rw [← h1]
        · rw [h3]; exact kk
theorem rd_atom {T : Nat → Nat} {n dp : Nat} {vv : Tb} {P : Nat → List Tb → List Nat → Prop} (hn : n ≤ 40) (hP : rdR T n vv P) {B : Option (Nat → Nat → pr_R)} (hB : HB T n dp B) (hL : ∀ f, B = some f → BL T n P f) {p c q c' : Nat} {ts : List Tb} {ws : List Nat} {v : Tb} (hp : p ≤ n) (hc : c ≤ 12) (hl : ts.length ≤ c) (hw : ws.length ≤ p) (h : pr_atom T n B p c = (q, some (c', v))) (hf : fo T n q) (kk : ∀ v', eqv v' v → P q (v' :: ts) ws) : P p ts ws := by
  unfold pr_atom at h
  cases h40 : pr_se T n p 40 with
  | false =>
    rw [h40, if_pos rfl] at h
    exact rd_bundle hP hl h hf (kk v (fun _ _ => rfl))
  | true =>
    rw [h40, if_neg (by decide)] at h
    obtain ⟨hlt, hT⟩ := pr_se_lt h40
    cases B with
    | none => cases h
    | some f =>
      dsimp only at h
      cases hr : f (p + 1) c with
      | mk q1 o =>
        rw [hr] at h
        cases o with
        | none => cases h
        | some r =>
          dsimp only at h
          cases h41 : pr_se T n q1 41 with
          | false => rw [h41, if_neg (by decide)] at h; cases h
          | true =>
            rw [h41, if_pos rfl] at h
            cases h
            obtain ⟨hlt1, hT1⟩ := pr_se_lt h41
            refine hP.2.1 p ts ws hlt hT (by omega) (hL f rfl (p + 1) c ts (40 :: ws) q1 c' v hlt hc hl (by simp only [List.length_cons]; omega) (fun w r z => by cases z; decide) hr (fo_at h41 (Or.inl rfl)) (fun ts' ws' hb => ?_))
            obtain ⟨v', e, hR⟩ := hb.red (fun w r z => by cases z; decide)
            exact hP.2.2.2.1 q1 ts' ws' (v' :: ts) ws 40 hlt1 hT1 hR (kk v' e)
theorem capl_fo {T : Nat → Nat} {n k p c q c' : Nat} {v w : Tb} (h : pr_capl T n k p c v = (q, some (c', w))) (hf : fo T n q) : fo T n p := by
  cases k with
  | zero => cases h
  | succ k =>
    unfold pr_capl at h
    cases h60 : pr_se T n p 60 with
    | false => rw [h60, if_pos rfl] at h; cases h; exact hf
    | true => exact fo_at h60 (by decide)
theorem rd_capl {T : Nat → Nat} {n : Nat} {vv : Tb} {P : Nat → List Tb → List Nat → Prop} (hP : rdR T n vv P) {q c' : Nat} {ts : List Tb} {ws : List Nat} {w : Tb} (hf : fo T n q) (kk : ∀ v', eqv v' w → P q (v' :: ts) ws) : ∀ k p c (v v' : Tb), pr_capl T n k p c v = (q, some (c', w)) → eqv v' v → P p (v' :: ts) ws
  | 0, p, c, v, v', h, _ => by cases h
  | k + 1, p, c, v, v', h, e => by
    unfold pr_capl at h
    cases h60 : pr_se T n p 60 with
    | false => rw [h60, if_pos rfl] at h; cases h; exact kk v' e
    | true =>
      rw [h60, if_neg (by decide)] at h
      obtain ⟨hlt, hT⟩ := pr_se_lt h60
      by_cases h12 : 12 ≤ c
      · rw [if_pos h12] at h; cases h
      · rw [if_neg h12] at h
        cases hg : pr_dg T n (p + 1) with
        | false => rw [hg, if_pos rfl] at h; cases h
        | true =>
          rw [hg, if_neg (by decide)] at h
          refine hP.2.2.1 p v' ts ws (pr_num T n 3 (p + 1) 0).1 (pr_num T n 3 (p + 1) 0).2 hlt hT rfl (capl_fo h hf).1 ?_
          exact rd_capl hP hf kk k _ _ _ _ h (fun s hs => by rw [e s hs])
theorem rd_cap {T : Nat → Nat} {n dp : Nat} {vv : Tb} {P : Nat → List Tb → List Nat → Prop} (hn : n ≤ 40) (hP : rdR T n vv P) {B : Option (Nat → Nat → pr_R)} (hB : HB T n dp B) (hL : ∀ f, B = some f → BL T n P f) {p c q c' : Nat} {ts : List Tb} {ws : List Nat} {v : Tb} (hp : p ≤ n) (hc : c ≤ 12) (hl : ts.length ≤ c) (hw : ws.length ≤ p) (h : pr_cap T n B p c = (q, some (c', v))) (hf : fo T n q) (kk : ∀ v', eqv v' v → P q (v' :: ts) ws) : P p ts ws := by
  unfold pr_cap at h
  cases hr : pr_atom T n B p c with
  | mk q1 o =>
    rw [hr] at h
    cases o with
    | none => cases h
    | some r =>
      dsimp only at h
      exact rd_atom hn hP hB hL hp hc hl hw hr (capl_fo h hf) (fun v' e => rd_capl hP hf kk 13 q1 r.1 r.2 v' h e)
theorem rd_suml {T : Nat → Nat} {n dp : Nat} {vv : Tb} {P : Nat → List Tb → List Nat → Prop} (hn : n ≤ 40) (hP : rdR T n vv P) {B : Option (Nat → Nat → pr_R)} (hB : HB T n dp B) (hL : ∀ f, B = some f → BL T n P f) {q c' : Nat} {ts : List Tb} {ws : List Nat} {v : Tb} (hW : Wn ws) (hf : fo T n q) (kk : ∀ ts' ws', RS v ts ws ts' ws' → P q ts' ws') : ∀ k p c (acc a : Tb), p ≤ n → c ≤ 12 → ts.length + 1 ≤ c → ws.length + 1 ≤ p → eqv a acc → pr_suml T n B k p c acc = (q, some (c', v)) → P p (a :: ts) (43 :: ws)
  | 0, p, c, acc, a, _, _, _, _, _, h => by cases h
  | k + 1, p, c, acc, a, hp, hc, hl, hw, e, h => by
    unfold pr_suml at h
    cases hr : pr_cap T n B p c with
    | mk q1 o =>
      rw [hr] at h
      cases o with
      | none => cases h
      | some r =>
        obtain ⟨g1, g2, g3, g4, _⟩ := (XA_cap (ms := 0) hB hp hc).2 q1 r.1 r.2 hr
        dsimp only at h
        cases h43 : pr_se T n q1 43 with
        | false =>
          rw [h43, if_pos rfl] at h; cases h
          exact rd_cap hn hP hB hL hp hc (by simp only [List.length_cons]; omega) (by simp only [List.length_cons]; omega) hr hf (fun u hu => kk _ _ (Or.inr ⟨a, u, jn_congr e hu, rfl, rfl⟩))
        | true =>
          rw [h43, if_neg (by decide)] at h
          obtain ⟨hlt, hT⟩ := pr_se_lt h43
          by_cases h12 : 12 ≤ r.1
          · rw [if_pos h12] at h; cases h
          · rw [if_neg h12] at h
            refine rd_cap hn hP hB hL hp hc (by simp only [List.length_cons]; omega) (by simp only [List.length_cons]; omega) hr (fo_at h43 (by decide)) (fun u hu => ?_)
            refine hP.2.2.2.2.1 q1 (u :: a :: ts) (43 :: ws) (jw 43 a u :: ts) ws hlt (Or.inl hT) ?_ (by omega) ?_
            · rw [hT]; exact Red_43 hW
            · rw [hT]
              exact rd_suml hn hP hB hL hW hf kk k (q1 + 1) (r.1 + 1) _ (jw 43 a u) hlt (by omega) (by omega) (by omega) (by rw [jw_43]; exact jn_congr e hu) h
theorem rd_sum {T : Nat → Nat} {n dp : Nat} {vv : Tb} {P : Nat → List Tb → List Nat → Prop} (hn : n ≤ 40) (hP : rdR T n vv P) {B : Option (Nat → Nat → pr_R)} (hB : HB T n dp B) (hG : pr_B n B) (hL : ∀ f, B = some f → BL T n P f) {p c q c' : Nat} {ts : List Tb} {ws : List Nat} {v : Tb} (hW : Wn ws) (hp : p ≤ n) (hc : c ≤ 12) (hl : ts.length ≤ c) (hw : ws.length ≤ p) (h : pr_sum T n B p c = (q, some (c', v))) (hf : fo T n q) (kk : ∀ ts' ws', RS v ts ws ts' ws' → P q ts' ws') : P p ts ws := by
  unfold pr_sum pr_suml at h
  cases hr : pr_cap T n B p c with
  | mk q1 o =>
    rw [hr] at h
    cases o with
    | none => cases h
    | some r =>
      obtain ⟨g1, g2, g3, g4, _⟩ := (XA_cap (ms := 0) hB hp hc).2 q1 r.1 r.2 hr
      have hg := pr_cap_good (T := T) hG hp hc
      rw [hr] at hg
      have j0 := jn_0 (hg.2 r.1 r.2 rfl).2
      dsimp only at h
      cases h43 : pr_se T n q1 43 with
      | false =>
        rw [h43, if_pos rfl] at h; cases h
        exact rd_cap hn hP hB hL hp hc hl hw hr hf (fun u hu => kk _ _ (Or.inl ⟨u, fun s hs => (hu s hs).trans (j0 s hs).symm, rfl, rfl⟩))
      | true =>
        rw [h43, if_neg (by decide)] at h
        obtain ⟨hlt, hT⟩ := pr_se_lt h43
        by_cases h12 : 12 ≤ r.1
        · rw [if_pos h12] at h; cases h
        · rw [if_neg h12] at h
          refine rd_cap hn hP hB hL hp hc hl hw hr (fo_at h43 (by decide)) (fun u hu => ?_)
          refine hP.2.2.2.2.1 q1 (u :: ts) ws (u :: ts) ws hlt (Or.inl hT) ?_ (by omega) ?_
          · rw [hT]; exact Red_f hW
          · rw [hT]
            exact rd_suml hn hP hB hL hW hf kk 12 (q1 + 1) (r.1 + 1) _ u hlt (by omega) (by omega) (by omega) (fun s hs => (hu s hs).trans (j0 s hs).symm) h
theorem Wb_n {ws : List Nat} (h : Wb ws) : Wn ws := fun w r e => (h w r e).1
theorem rd_bidl {T : Nat → Nat} {n dp : Nat} {vv : Tb} {P : Nat → List Tb → List Nat → Prop} (hn : n ≤ 40) (hP : rdR T n vv P) {B : Option (Nat → Nat → pr_R)} (hB : HB T n dp B) (hG : pr_B n B) (hL : ∀ f, B = some f → BL T n P f) {q c' : Nat} {ts : List Tb} {ws : List Nat} {v : Tb} (hW : Wb ws) (hf : fo T n q) (kk : ∀ ts' ws', RB v ts ws ts' ws' → P q ts' ws') : ∀ k p c (acc a : Tb), p ≤ n → c ≤ 12 → ts.length + 1 ≤ c → ws.length + 1 ≤ p → eqv a acc → pr_bidl T n B k p c acc = (q, some (c', v)) → P p (a :: ts) (94 :: ws)
  | 0, p, c, acc, a, _, _, _, _, _, h => by cases h
  | k + 1, p, c, acc, a, hp, hc, hl, hw, e, h => by
    unfold pr_bidl at h
    cases hr : pr_sum T n B p c with
    | mk q1 o =>
      rw [hr] at h
      cases o with
      | none => cases h
      | some r =>
        obtain ⟨g1, g2, g3, g4, _⟩ := (XA_suml (ms := 0) (pl := p) (cl := c) hB 13 p c (fun _ => 0) (by omega) hc hp (Nat.le_refl _) (Nat.le_refl _)).2 q1 r.1 r.2 hr
        dsimp only at h
        cases h94 : pr_se T n q1 94 with
        | false =>
          rw [h94, if_pos rfl] at h; cases h
          exact rd_sum hn hP hB hG hL (fun w r z => by cases z; decide) hp hc (by simp only [List.length_cons]; omega) (by simp only [List.length_cons]; omega) hr hf (fun ts' ws' hs => kk _ _ (Or.inr ⟨a, r.2, fun s hs => by dsimp only; rw [e s hs], hs⟩))
        | true =>
          rw [h94, if_neg (by decide)] at h
          obtain ⟨hlt, hT⟩ := pr_se_lt h94
          by_cases h12 : 12 ≤ r.1
          · rw [if_pos h12] at h; cases h
          · rw [if_neg h12] at h
            refine rd_sum hn hP hB hG hL (fun w r z => by cases z; decide) hp hc (by simp only [List.length_cons]; omega) (by simp only [List.length_cons]; omega) hr (fo_at h94 (by decide)) (fun ts' ws' hs => ?_)
            obtain ⟨u, hu, hR⟩ := hs.red
            refine hP.2.2.2.2.1 q1 ts' ws' (jw 94 a u :: ts) ws hlt (Or.inr hT) ?_ (by omega) ?_
            · rw [hT]; exact hR _ _ _ (Red_94 hW)
            · rw [hT]
              exact rd_bidl hn hP hB hG hL hW hf kk k (q1 + 1) (r.1 + 1) _ (jw 94 a u) hlt (by omega) (by omega) (by omega) (fun s hs => by rw [jw_n (by decide), hu s hs, e s hs]) h
theorem rd_bid {T : Nat → Nat} {n dp : Nat} {vv : Tb} {P : Nat → List Tb → List Nat → Prop} (hn : n ≤ 40) (hP : rdR T n vv P) {B : Option (Nat → Nat → pr_R)} (hB : HB T n dp B) (hG : pr_B n B) (hL : ∀ f, B = some f → BL T n P f) : BL T n P (pr_bid T n B) := by
  intro p c ts ws q c' v hp hc hl hw hW h hf kk
  unfold pr_bid pr_bidl at h
  cases hr : pr_sum T n B p c with
  | mk q1 o =>
    rw [hr] at h
    cases o with
    | none => cases h
    | some r =>
      obtain ⟨g1, g2, g3, g4, _⟩ := (XA_suml (ms := 0) (pl := p) (cl := c) hB 13 p c (fun _ => 0) (by omega) hc hp (Nat.le_refl _) (Nat.le_refl _)).2 q1 r.1 r.2 hr
      have hg : pr_good n (pr_sum T n B p c) := pr_suml_good hG 13 p c _ hp hc tb_0
      rw [hr] at hg
      have m0 : eqv r.2 (fun s => max 0 (r.2 s)) := fun s hs => by have := ((hg.2 r.1 r.2 rfl).2.b hs).1; dsimp only; omega
      dsimp only at h
      cases h94 : pr_se T n q1 94 with
      | false =>
        rw [h94, if_pos rfl] at h; cases h
        exact rd_sum hn hP hB hG hL (Wb_n hW) hp hc hl hw hr hf (fun ts' ws' hs => kk _ _ (Or.inl (hs.to m0)))
      | true =>
        rw [h94, if_neg (by decide)] at h
        obtain ⟨hlt, hT⟩ := pr_se_lt h94
        by_cases h12 : 12 ≤ r.1
        · rw [if_pos h12] at h; cases h
        · rw [if_neg h12] at h
          refine rd_sum hn hP hB hG hL (Wb_n hW) hp hc hl hw hr (fo_at h94 (by decide)) (fun ts' ws' hs => ?_)
          obtain ⟨u, hu, hR⟩ := hs.red
          refine hP.2.2.2.2.1 q1 ts' ws' (u :: ts) ws hlt (Or.inr hT) ?_ (by omega) ?_
          · rw [hT]; exact hR _ _ _ (Red_t hW)
          · rw [hT]
            exact rd_bidl hn hP hB hG hL hW hf kk 12 (q1 + 1) (r.1 + 1) _ u hlt (by omega) (by omega) (by omega) (fun s hs => (hu s hs).trans (m0 s hs)) h
theorem rd_bidk {T : Nat → Nat} {n : Nat} {vv : Tb} {P : Nat → List Tb → List Nat → Prop} (hn : n ≤ 40) (hP : rdR T n vv P) : ∀ k dp, dp + k = 8 → BL T n P (pr_bidk T n k)
  | 0, dp, hk => rd_bid (dp := dp) (B := none) hn hP ⟨fun _ => by omega, fun f z => by cases z⟩ (fun f z => by cases z) (fun f z => by cases z)
  | k + 1, dp, hk => rd_bid (dp := dp) (B := some (pr_bidk T n k)) hn hP ⟨fun z => (by cases z), fun f z => by cases z; exact ⟨by omega, fun p c ms hp hc => XA_bidk k (dp + 1) p c ms (by omega) hp hc⟩⟩ (fun f z => by cases z; exact fun p c hp hc => pr_bidk_good k p c hp hc) (fun f z => by cases z; exact rd_bidk hn hP k (dp + 1) (by omega))
/-- where the class reads a bid, the reference's reader ends with its table -/
theorem rd_all {T : Nat → Nat} {n c : Nat} {v : Tb} (hn : n ≤ 40) (h : pr_read T n = .inr (c, v)) (P : Nat → List Tb → List Nat → Prop) (hP : rdR T n v P) : P 0 [] [] := by
  unfold pr_read at h
  cases hr : pr_bidk T n 8 0 0 with
  | mk q o =>
    rw [hr] at h
    cases o with
    | none => cases h
    | some r =>
      dsimp only at h
      by_cases hq : q = n
      · rw [if_pos hq] at h
        cases h
        subst hq
        refine rd_bidk hn hP 8 0 rfl 0 0 [] [] q c v (Nat.zero_le _) (by decide) (Nat.le_refl _) (Nat.le_refl _) (fun w r z => by cases z) hr ⟨decide_eq_false (fun z => by omega), decide_eq_false (fun z => by omega)⟩ (fun ts' ws' hb => ?_)
        obtain ⟨v', e, hR⟩ := hb.red (fun w r z => by cases z)
        exact hP.2.2.2.2.2 ts' ws' v' hR e
      · rw [if_neg hq] at h; cases h
