/-! THE PARSER, as functions of the bytes T, n of them -/
noncomputable def rnN (P : Int → Prop) (n : Int) : Nat → Int → Int
  | 0, a => a
  | k + 1, a => @ite Int (a < n ∧ P a) (Classical.propDecidable _) (rnN P n k (a + 1)) a
noncomputable def rn (P : Int → Prop) (n a : Int) : Int := rnN P n (n - a).toNat a
theorem rn_stop {P : Int → Prop} {n a : Int} (h : ¬ (a < n ∧ P a)) : rn P n a = a := by
  unfold rn
  cases (n - a).toNat with
  | zero => rfl
  | succ k => rw [rnN]; exact if_neg h
theorem rn_go {P : Int → Prop} {n a : Int} (h : a < n) (hP : P a) : rn P n a = rn P n (a + 1) := by
  unfold rn
  rw [show (n - a).toNat = (n - (a + 1)).toNat + 1 by omega, rnN]
  exact if_pos ⟨h, hP⟩
theorem rnN_in {P : Int → Prop} {n : Int} : ∀ (k : Nat) (a : Int), a ≤ rnN P n k a ∧ (a ≤ n → rnN P n k a ≤ n) := by
  intro k
  induction k with
  | zero => intro a; exact ⟨Int.le_refl _, fun h => h⟩
  | succ k ih =>
    intro a
    rw [rnN]
    rcases Classical.em (a < n ∧ P a) with q | q
    · rw [if_pos q]
      have := ih (a + 1)
      exact ⟨by omega, fun _ => this.2 (by omega)⟩
    · rw [if_neg q]; exact ⟨Int.le_refl _, fun h => h⟩
theorem rn_in {P : Int → Prop} {n a : Int} (h : a ≤ n) : a ≤ rn P n a ∧ rn P n a ≤ n := ⟨(rnN_in _ _).1, (rnN_in _ _).2 h⟩
theorem rnN_at {P : Int → Prop} {n : Int} : ∀ (k : Nat) (a : Int), n - a ≤ k → ¬ (rnN P n k a < n ∧ P (rnN P n k a)) := by
  intro k
  induction k with
  | zero => intro a h q; simp only [rnN] at q; omega
  | succ k ih =>
    intro a h
    rw [rnN]
    rcases Classical.em (a < n ∧ P a) with q | q
    · rw [if_pos q]; exact ih (a + 1) (by omega)
    · rw [if_neg q]; exact q
theorem rn_at {P : Int → Prop} {n a : Int} : ¬ (rn P n a < n ∧ P (rn P n a)) := rnN_at _ _ (by omega)
theorem rn_rn {P : Int → Prop} {n a : Int} : rn P n (rn P n a) = rn P n a := rn_stop rn_at
def pB_ (T : Int → Int) (i : Int) : Prop := T i = 32
def pL_ (T : Int → Int) (i : Int) : Prop := 97 ≤ T i ∧ T i ≤ 122
def pD_ (T : Int → Int) (i : Int) : Prop := 48 ≤ T i ∧ T i ≤ 57
def nvN (T : Int → Int) (n : Int) : Nat → Int → Int → Int
  | 0, _, v => v
  | k + 1, a, v => if a < n ∧ 48 ≤ T a ∧ T a ≤ 57 then nvN T n k (a + 1) (zmin (v * 10 + T a - 48) 1000) else v
def nv (T : Int → Int) (n a v : Int) : Int := nvN T n (n - a).toNat a v
theorem nv_stop {T : Int → Int} {n a v : Int} (h : ¬ (a < n ∧ pD_ T a)) : nv T n a v = v := by
  unfold nv
  cases (n - a).toNat with
  | zero => rfl
  | succ k => rw [nvN]; exact if_neg h
theorem nv_go {T : Int → Int} {n a v : Int} (h : a < n) (hP : pD_ T a) : nv T n a v = nv T n (a + 1) (zmin (v * 10 + T a - 48) 1000) := by
  unfold nv
  rw [show (n - a).toNat = (n - (a + 1)).toNat + 1 by omega, nvN]
  exact if_pos ⟨h, hP⟩
def isW (T : Int → Int) (i a b : Int) : Prop := b - a = zslen i ∧ ∀ k, 0 ≤ k → k < zslen i → T (a + k) = zsbyte i k
noncomputable def knd (T : Int → Int) (a b : Int) : Int := zite (isW T 1 a b) 1 (zite (isW T 2 a b) 2 (zite (isW T 3 a b) 3 (zite (isW T 4 a b) 4 (zite (isW T 5 a b) 5 (zite (isW T 6 a b) 6 (zite (isW T 7 a b) 7 0))))))
/-- a number between lo and hi: its value, then the place and the fault (0: none) -/
noncomputable def nmR (T : Int → Int) (n lo hi : Int) (s : Int × Int) : Int × Int × Int :=
  if s.2 ≠ 0 then (lo, s)
  else if rn (pD_ T) n (rn (pB_ T) n s.1) = rn (pB_ T) n s.1 then (lo, (rn (pB_ T) n s.1, 8 * rn (pB_ T) n s.1 + 1))
  else if nv T n (rn (pB_ T) n s.1) 0 < lo ∨ hi < nv T n (rn (pB_ T) n s.1) 0 then (lo, (rn (pD_ T) n (rn (pB_ T) n s.1), 8 * rn (pB_ T) n s.1 + 2))
  else (nv T n (rn (pB_ T) n s.1) 0, (rn (pD_ T) n (rn (pB_ T) n s.1), 0))
theorem nmR_in {T : Int → Int} {n lo hi : Int} {s : Int × Int} (h : 0 ≤ s.1 ∧ s.1 ≤ n) (hf : 0 ≤ s.2) (hl : lo ≤ hi) : (lo ≤ (nmR T n lo hi s).1 ∧ (nmR T n lo hi s).1 ≤ hi) ∧ (0 ≤ (nmR T n lo hi s).2.1 ∧ (nmR T n lo hi s).2.1 ≤ n) ∧ 0 ≤ (nmR T n lo hi s).2.2 ∧ ((nmR T n lo hi s).2.2 = 0 → s.2 = 0) ∧ s.1 ≤ (nmR T n lo hi s).2.1 := by
  have h1 := rn_in (P := pB_ T) h.2
  have h2 := rn_in (P := pD_ T) h1.2
  unfold nmR
  split
  · exact ⟨⟨Int.le_refl _, hl⟩, h, hf, fun e => e, Int.le_refl _⟩
  · split
    · exact ⟨⟨Int.le_refl _, hl⟩, ⟨by simp only []; omega, by simp only []; omega⟩, by simp only []; omega, fun e => by simp only [] at e; omega, by simp only []; omega⟩
    · split
      · exact ⟨⟨Int.le_refl _, hl⟩, ⟨by simp only []; omega, by simp only []; omega⟩, by simp only []; omega, fun e => by simp only [] at e; omega, by simp only []; omega⟩
      · exact ⟨⟨by simp only []; omega, by simp only []; omega⟩, ⟨by simp only []; omega, by simp only []; omega⟩, Int.le_refl _, fun _ => by omega, by simp only []; omega⟩
noncomputable def zitG (P : Prop) (A B : GR) : GR := @ite GR P (Classical.propDecidable P) A B
theorem zitG_t {P : Prop} {A B : GR} (h : P) : zitG P A B = A := @if_pos P (Classical.propDecidable P) h GR A B
theorem zitG_f {P : Prop} {A B : GR} (h : ¬ P) : zitG P A B = B := @if_neg P (Classical.propDecidable P) h GR A B
def suit (k a b : Int) : Prop := (k = 3 ∧ (a + b) % 2 = 0) ∨ (k = 4 ∧ (a + b) % 2 = 1) ∨ (k = 5 ∧ a = b) ∨ (k = 6 ∧ a ≠ b)
noncomputable def winW (G : GR) (k x y : Int) : GR := zfold (G 2).toNat (fun a H => zfold (G 3).toNat (fun b K => zitG (suit k a b) (gup K (29 + zS 0 x y a b) 1) K) H) G
abbrev PS : Type := (Int × Int) × GR
noncomputable def pWt (T : Int → Int) (n : Int) (G : GR) (x y : Int) (s : Int × Int) : PS :=
  ((nmR T n 0 9 s).2, if (nmR T n 0 9 s).2.2 = 0 then gup G (4 + zC 0 x y) (nmR T n 0 9 s).1 else G)
noncomputable def pS3 (T : Int → Int) (n k : Int) (s : Int × Int) : Int × Int × Int := if k = 7 then nmR T n 0 12 s else (1, s)
noncomputable def pSp (T : Int → Int) (n k : Int) (G : GR) (x y : Int) (s : Int × Int) : PS :=
  let a := nmR T n 0 (G 2 - 1) s
  let b := nmR T n 0 (G 3 - 1) a.2
  let t := pS3 T n k b.2
  (t.2, if t.2.2 = 0 then gup G ((if k = 7 then 429 else 29) + zS 0 x y a.1 b.1) t.1 else G)
noncomputable def pKd (T : Int → Int) (n k : Int) (G : GR) (s : Int × Int) : PS :=
  let x := nmR T n 0 (G 0 - 1) s
  let y := nmR T n 0 (G 1 - 1) x.2
  if k = 1 then pWt T n G x.1 y.1 y.2 else if k = 2 ∨ k = 7 then pSp T n k G x.1 y.1 y.2 else (y.2, if y.2.2 = 0 then winW G k x.1 y.1 else G)
/-- behind a semicolon -/
noncomputable def pBd (T : Int → Int) (n : Int) (G : GR) (a : Int) : PS :=
  let a1 := rn (pB_ T) n a
  let b := rn (pL_ T) n a1
  if knd T a1 b = 0 then ((a1, 8 * a1 + 1), G) else pKd T n (knd T a1 b) G (b, 0)
noncomputable def pPt (T : Int → Int) (n : Int) (G : GR) (a : Int) : PS := if T a = 59 then pBd T n G (a + 1) else ((a, 8 * a + 1), G)
noncomputable def pSt (T : Int → Int) (n : Int) (c : PS) : PS := ((rn (pB_ T) n (pPt T n c.2 c.1.1).1.1, (pPt T n c.2 c.1.1).1.2), (pPt T n c.2 c.1.1).2)
noncomputable def pIt (T : Int → Int) (n : Int) : Nat → PS → PS
  | 0, c => c
  | k + 1, c => pSt T n (pIt T n k c)
def pCo (n : Int) (c : PS) : Prop := c.1.2 = 0 ∧ c.1.1 < n
/-- all parts are read -/
def isPr (T : Int → Int) (n : Int) (c e : PS) : Prop := ∃ k, pIt T n k c = e ∧ ¬ pCo n e ∧ ∀ j, j < k → pCo n (pIt T n j c)
theorem isPr_eq {T : Int → Int} {n : Int} {c e e2 : PS} (h : isPr T n c e) (h2 : isPr T n c e2) : e = e2 := by
  obtain ⟨k, k1, k2, k3⟩ := h
  obtain ⟨l, l1, l2, l3⟩ := h2
  have : k = l := by
    rcases (show k < l ∨ k = l ∨ l < k by omega) with q | q | q
    · exact absurd (l3 k q) (by rw [k1]; exact k2)
    · exact q
    · exact absurd (k3 l q) (by rw [l1]; exact l2)
  rw [← k1, ← l1, this]
/-- the head: the numbers' state, then the game -/
noncomputable def pH1 (T : Int → Int) (n : Int) : Int × Int × Int := nmR T n 1 5 (rn (pL_ T) n (rn (pB_ T) n 0), 0)
noncomputable def pH2 (T : Int → Int) (n : Int) : Int × Int × Int := nmR T n 1 5 (pH1 T n).2
noncomputable def pH3 (T : Int → Int) (n : Int) : Int × Int × Int := nmR T n 2 4 (pH2 T n).2
noncomputable def pH4 (T : Int → Int) (n : Int) : Int × Int × Int := nmR T n 2 4 (pH3 T n).2
def isHd (T : Int → Int) (n : Int) : Prop := isW T 0 (rn (pB_ T) n 0) (rn (pL_ T) n (rn (pB_ T) n 0))
noncomputable def pHG (T : Int → Int) (n : Int) : GR := opStart (pH1 T n).1 (pH2 T n).1 (pH3 T n).1 (pH4 T n).1
/-- what a tape tells: its fault, and its game, if there is none -/
def isTl (T : Int → Int) (n f : Int) (G : GR) : Prop := (¬ isHd T n ∧ f = 8 * rn (pB_ T) n 0 + 1) ∨ (isHd T n ∧ (pH4 T n).2.2 ≠ 0 ∧ f = (pH4 T n).2.2) ∨ (isHd T n ∧ (pH4 T n).2.2 = 0 ∧ ∃ a, isPr T n ((rn (pB_ T) n (pH4 T n).2.1, 0), pHG T n) ((a, f), G))
theorem isTl_eq {T : Int → Int} {n f f2 : Int} {G G2 : GR} (h : isTl T n f G) (k : isTl T n f2 G2) : f = f2 ∧ (f = 0 → G = G2) := by
  have hb : 0 ≤ rn (pB_ T) n 0 := (rnN_in _ _).1
  rcases h with ⟨h1, h2⟩ | ⟨h1, h2, h3⟩ | ⟨h1, h2, a, h3⟩ <;> rcases k with ⟨k1, k2⟩ | ⟨k1, k2, k3⟩ | ⟨k1, k2, b, k3⟩
  · exact ⟨by omega, fun e => by omega⟩
  · exact absurd k1 h1
  · exact absurd k1 h1
  · exact absurd h1 k1
  · exact ⟨by omega, fun e => absurd (h3.symm.trans e) h2⟩
  · exact absurd k2 h2
  · exact absurd h1 k1
  · exact absurd h2 k2
  · have := isPr_eq h3 k3
    simp only [Prod.mk.injEq] at this
    exact ⟨this.1.2, fun _ => this.2⟩
theorem zitG_P {P : Prop} {A B : GR} {S : GR → Prop} (h1 : P → S A) (h2 : ¬ P → S B) : S (zitG P A B) := by
  rcases Classical.em P with q | q
  · rw [zitG_t q]; exact h1 q
  · rw [zitG_f q]; exact h2 q
/-- the sizes stay, the game stays one -/
def sGK (G K : GR) : Prop := GOK K ∧ K 0 = G 0 ∧ K 1 = G 1 ∧ K 2 = G 2 ∧ K 3 = G 3
