/-! MEANING: the base -/
noncomputable def zite (P : Prop) (a b : Int) : Int := @ite Int P (Classical.propDecidable P) a b
theorem zite_t {P : Prop} {a b : Int} (h : P) : zite P a b = a := @if_pos P (Classical.propDecidable P) h Int a b
theorem zite_f {P : Prop} {a b : Int} (h : ¬ P) : zite P a b = b := @if_neg P (Classical.propDecidable P) h Int a b
noncomputable def zb (P : Prop) : Int := zite P 1 0
theorem zb_t {P : Prop} (h : P) : zb P = 1 := zite_t h
theorem zb_f {P : Prop} (h : ¬ P) : zb P = 0 := zite_f h
theorem zb_eq0 {P : Prop} : zb P = 0 ↔ ¬ P := by
  rcases Classical.em P with h | h
  · rw [zb_t h]; simp [h]
  · rw [zb_f h]; simp [h]
theorem zb_ne0 {P : Prop} : ¬ zb P = 0 ↔ P := by rw [zb_eq0]; exact Classical.not_not
theorem zb_eq1 {P : Prop} : zb P = 1 ↔ P := by
  rcases Classical.em P with h | h
  · rw [zb_t h]; simp [h]
  · rw [zb_f h]; simp [h]
theorem zb_01 {P : Prop} : 0 ≤ zb P ∧ zb P ≤ 1 := by
  rcases Classical.em P with h | h
  · rw [zb_t h]; decide
  · rw [zb_f h]; decide
theorem zb_congr {P R : Prop} (h : P ↔ R) : zb P = zb R := by
  rcases Classical.em P with q | q
  · rw [zb_t q, zb_t (h.1 q)]
  · rw [zb_f q, zb_f (fun r => q (h.2 r))]
def zal (b : Int) (f : Int → Prop) : Prop := ∀ i, 0 ≤ i → i < b → f i
theorem zal_0 (f : Int → Prop) : zal 0 f := fun i h1 h2 => by omega
theorem zal_1 {b : Int} {f : Int → Prop} (h : zal b f) (h2 : f b) : zal (b + 1) f := fun i h3 h4 => by
  rcases (show i < b ∨ i = b by omega) with q | q
  · exact h i h3 q
  · rw [q]; exact h2
theorem zal_at {b c : Int} {f : Int → Prop} (h : zal b f) (h1 : 0 ≤ c) (h2 : c < b) : f c := h c h1 h2
theorem zal_s {b : Int} {f : Int → Prop} (h0 : 0 ≤ b) : zal (b + 1) f ↔ zal b f ∧ f b := ⟨fun h => ⟨fun i h1 h2 => h i h1 (by omega), h b h0 (by omega)⟩, fun h => zal_1 h.1 h.2⟩
def qE (m : ZM) (e : Int) : Int → ZM → Prop := fun x m' => x = e ∧ m = m'
theorem iw_s {x : Int} (h1 : -2147483648 ≤ x) (h2 : x ≤ 2147483647) : iw x = x := iw_of h1 h2
def zsum : Nat → (Int → Int) → Int
  | 0, _ => 0
  | n + 1, f => zsum n f + f n
/-- a counted loop: from i up to b, with an invariant -/
theorem zfor {σ : Type} (b : Int) (G : Int → σ → Prop) (I : Int → σ → Prop)
    (step : ∀ (i : Int) (s : σ), i < b → I i s → (∀ s' : σ, I (i + 1) s' → G (i + 1) s') → G i s) (exit : ∀ s : σ, I b s → G b s) : ∀ (i : Int) (s : σ), i ≤ b → I i s → G i s := by
  have key : ∀ (n : Nat) (i : Int) (s : σ), i + n = b → I i s → G i s := by
    intro n
    induction n with
    | zero =>
      intro i s h hi
      have e : i = b := by omega
      subst e
      exact exit s hi
    | succ n ih => exact fun i s h hi => step i s (by omega) hi (fun s' hs => ih (i + 1) s' (by omega) hs)
  exact fun i s h hi => key (b - i).toNat i s (by omega) hi
/-- counted loops, one step for both ends; none, one, two, three values beside the counter -/
theorem zfor0 (b : Int) (G : Int → Prop) (I : Int → Prop) (step : ∀ i : Int, i ≤ b → I i → (i < b → I (i + 1) → G (i + 1)) → G i) : ∀ i : Int, i ≤ b → I i → G i := fun i hi h =>
  zfor (σ := Unit) b (fun i _ => G i) (fun i _ => I i) (fun i _ hb hI K => step i (by omega) hI (fun _ h => K () h)) (fun _ hI => step b (by omega) hI (fun h => by omega)) i () hi h
theorem zfor1 {A : Type} (b : Int) (G : Int → A → Prop) (I : Int → A → Prop) (step : ∀ (i : Int) (s : A), i ≤ b → I i s → (∀ s' : A, i < b → I (i + 1) s' → G (i + 1) s') → G i s) : ∀ (i : Int) (s : A), i ≤ b → I i s → G i s :=
  zfor b G I (fun i s hb hI K => step i s (by omega) hI (fun s' _ h => K s' h)) (fun s hI => step b s (by omega) hI (fun _ h => by omega))
theorem zfor2 {A B : Type} (b : Int) (G : Int → A → B → Prop) (I : Int → A → B → Prop) (step : ∀ (i : Int) (s : A) (t : B), i ≤ b → I i s t → (∀ (s' : A) (t' : B), i < b → I (i + 1) s' t' → G (i + 1) s' t') → G i s t) : ∀ (i : Int) (s : A) (t : B), i ≤ b → I i s t → G i s t := fun i s t hi h =>
  zfor1 b (fun i (q : A × B) => G i q.1 q.2) (fun i q => I i q.1 q.2) (fun i q hb hI K => step i q.1 q.2 hb hI (fun s' t' hb h => K (s', t') hb h)) i (s, t) hi h
theorem zfor3 {A B C : Type} (b : Int) (G : Int → A → B → C → Prop) (I : Int → A → B → C → Prop) (step : ∀ (i : Int) (s : A) (t : B) (u : C), i ≤ b → I i s t u → (∀ (s' : A) (t' : B) (u' : C), i < b → I (i + 1) s' t' u' → G (i + 1) s' t' u') → G i s t u) : ∀ (i : Int) (s : A) (t : B) (u : C), i ≤ b → I i s t u → G i s t u := fun i s t u hi h =>
  zfor1 b (fun i (q : A × B × C) => G i q.1 q.2.1 q.2.2) (fun i q => I i q.1 q.2.1 q.2.2) (fun i q hb hI K => step i q.1 q.2.1 q.2.2 hb hI (fun s' t' u' hb h => K (s', t', u') hb h)) i (s, t, u) hi h
theorem zsum_1 {i : Int} (h : 0 ≤ i) (f : Int → Int) : zsum (i + 1).toNat f = zsum i.toNat f + f i := by
  have e : (i + 1).toNat = i.toNat + 1 := by omega
  rw [e, zsum]
  congr 2
  omega
theorem zsum_0 (f : Int → Int) : zsum (Int.toNat 0) f = 0 := rfl
theorem zsum_le {C : Int} {f : Int → Int} (hC : 0 ≤ C) (h : ∀ i, 0 ≤ f i ∧ f i ≤ C) : ∀ n : Nat, 0 ≤ zsum n f ∧ zsum n f ≤ C * n := by
  intro n
  induction n with
  | zero => exact ⟨Int.le_refl _, by simp [zsum]⟩
  | succ n ih =>
    have := h n
    rw [zsum]
    have e : C * ((n + 1 : Nat) : Int) = C * n + C := by rw [Int.natCast_add, Int.mul_add]; simp
    omega
/-- a loop with a measure that falls -/
theorem zwhile {σ : Type} (μ : σ → Nat) (G : σ → Prop) (I : σ → Prop) (step : ∀ s : σ, I s → (∀ s' : σ, I s' → μ s' < μ s → G s') → G s) : ∀ s : σ, I s → G s := by
  have key : ∀ (n : Nat) (s : σ), μ s < n → I s → G s := by
    intro n
    induction n with
    | zero => intro s h; omega
    | succ n ih => exact fun s h hi => step s hi (fun s' hs hlt => ih s' (by omega) hs)
  exact fun s hi => key (μ s + 1) s (by omega) hi
theorem zmul_in {a b A B : Int} (ha : 0 ≤ a ∧ a ≤ A) (hb : 0 ≤ b ∧ b ≤ B) : 0 ≤ a * b ∧ a * b ≤ A * B := ⟨Int.mul_nonneg ha.1 hb.1, Int.mul_le_mul ha.2 hb.2 hb.1 (by omega)⟩
/-! a game as one row of numbers: sizes 0 to 3, weights from 4, wins from 29, boxes from 429 -/
abbrev GR : Type := Int → Int
def gW (G : GR) (x y : Int) : Int := if 0 ≤ x ∧ x < 5 ∧ 0 ≤ y ∧ y < 5 then G (4 + (5 * x + y)) else 0
def gV (G : GR) (x y a b : Int) : Int := if (0 ≤ x ∧ x < 5 ∧ 0 ≤ y ∧ y < 5) ∧ 0 ≤ a ∧ a < 4 ∧ 0 ≤ b ∧ b < 4 then G (29 + (4 * (4 * (5 * x + y) + a) + b)) else 0
def gB (G : GR) (x y a b : Int) : Int := if (0 ≤ x ∧ x < 5 ∧ 0 ≤ y ∧ y < 5) ∧ 0 ≤ a ∧ a < 4 ∧ 0 ≤ b ∧ b < 4 then G (429 + (4 * (4 * (5 * x + y) + a) + b)) else 0
def nQ (G : GR) (p : Int) : Int := if p = 0 then G 0 else G 1
def nA (G : GR) (p : Int) : Int := if p = 0 then G 2 else G 3
/-- as player p sees it: own question and answer ahead -/
def pW (G : GR) (p x y : Int) : Int := if p = 0 then gW G x y else gW G y x
def pV (G : GR) (p x y a b : Int) : Int := if p = 0 then gV G x y a b else gV G y x b a
def pB (G : GR) (p x y a b : Int) : Int := if p = 0 then gB G x y a b else gB G y x b a
def GOK (G : GR) : Prop := ((0 ≤ G 0 ∧ G 0 ≤ 5) ∧ (0 ≤ G 1 ∧ G 1 ≤ 5) ∧ (0 ≤ G 2 ∧ G 2 ≤ 4) ∧ (0 ≤ G 3 ∧ G 3 ≤ 4)) ∧ (0 < G 0 → 1 ≤ G 1 ∧ 2 ≤ G 2 ∧ 2 ≤ G 3) ∧ ((∀ x y, 0 ≤ gW G x y ∧ gW G x y ≤ 9) ∧ (∀ x y a b, 0 ≤ gV G x y a b ∧ gV G x y a b ≤ 1) ∧ (∀ x y a b, 0 ≤ gB G x y a b ∧ gB G x y a b ≤ 12)) ∧ (∀ x y, G 0 ≤ x ∨ G 1 ≤ y → gW G x y = 0) ∧ (∀ x y a b, G 0 ≤ x ∨ G 1 ≤ y ∨ G 2 ≤ a ∨ G 3 ≤ b → gV G x y a b = 0 ∧ gB G x y a b = 0)
theorem GOK.q {G : GR} (h : GOK G) (p : Int) : 0 ≤ nQ G p ∧ nQ G p ≤ 5 := by
  have := h.1
  unfold nQ; split <;> omega
theorem GOK.a {G : GR} (h : GOK G) (p : Int) : 0 ≤ nA G p ∧ nA G p ≤ 4 := by
  have := h.1
  unfold nA; split <;> omega
theorem GOK.W {G : GR} (h : GOK G) (p x y : Int) : 0 ≤ pW G p x y ∧ pW G p x y ≤ 9 := by
  unfold pW; split <;> exact h.2.2.1.1 _ _
theorem GOK.V {G : GR} (h : GOK G) (p x y a b : Int) : 0 ≤ pV G p x y a b ∧ pV G p x y a b ≤ 1 := by
  unfold pV; split <;> exact h.2.2.1.2.1 _ _ _ _
theorem GOK.B {G : GR} (h : GOK G) (p x y a b : Int) : 0 ≤ pB G p x y a b ∧ pB G p x y a b ≤ 12 := by
  unfold pB; split <;> exact h.2.2.1.2.2 _ _ _ _
theorem GOK.gW {G : GR} (h : GOK G) (x y : Int) : 0 ≤ gW G x y ∧ gW G x y ≤ 9 := h.2.2.1.1 _ _
theorem GOK.gV {G : GR} (h : GOK G) (x y a b : Int) : 0 ≤ gV G x y a b ∧ gV G x y a b ≤ 1 := h.2.2.1.2.1 _ _ _ _
theorem GOK.gB {G : GR} (h : GOK G) (x y a b : Int) : 0 ≤ gB G x y a b ∧ gB G x y a b ≤ 12 := h.2.2.1.2.2 _ _ _ _
theorem GOK.WV {G : GR} (h : GOK G) (p x y a b : Int) : 0 ≤ pW G p x y * pV G p x y a b ∧ pW G p x y * pV G p x y a b ≤ 9 := zmul_in (B := 1) (h.W p x y) (h.V p x y a b)
/-! places in the class's rows -/
def zC (p x y : Int) : Int := if p = 0 then x * 5 + y else y * 5 + x
def zS (p x y a b : Int) : Int := zC p x y * 16 + (if p = 0 then a * 4 + b else b * 4 + a)
theorem zC_in {p x y : Int} (hx : 0 ≤ x ∧ x < 5) (hy : 0 ≤ y ∧ y < 5) : 0 ≤ zC p x y ∧ zC p x y < 25 := by unfold zC; split <;> omega
theorem zS_in {p x y a b : Int} (hx : 0 ≤ x ∧ x < 5) (hy : 0 ≤ y ∧ y < 5) (ha : 0 ≤ a ∧ a < 4) (hb : 0 ≤ b ∧ b < 4) : 0 ≤ zS p x y a b ∧ zS p x y a b < 400 := by
  have := zC_in (p := p) hx hy
  unfold zS; split <;> omega
/-- a Game object at g, with its three rows -/
def GS (kd : ZK) (m : ZM) (g : Int) : Prop := zobj kd g 1 ∧ (m g 4 = g + 1 ∧ m g 5 = g + 2 ∧ m g 6 = g + 3) ∧ (zarr kd (g + 1) 0 25 ∧ zarr kd (g + 2) 0 400 ∧ zarr kd (g + 3) 0 400)
/-- it bears the game G -/
def CG (kd : ZK) (m : ZM) (g : Int) (G : GR) : Prop := GS kd m g ∧ (m g 0 = G 0 ∧ m g 1 = G 1 ∧ m g 2 = G 2 ∧ m g 3 = G 3) ∧ (∀ x y, 0 ≤ x → x < G 0 → 0 ≤ y → y < G 1 → m (g + 1) (x * 5 + y) = gW G x y) ∧ (∀ x y a b, 0 ≤ x → x < G 0 → 0 ≤ y → y < G 1 → 0 ≤ a → a < G 2 → 0 ≤ b → b < G 3 → m (g + 2) ((x * 5 + y) * 16 + (a * 4 + b)) = gV G x y a b ∧ m (g + 3) ((x * 5 + y) * 16 + (a * 4 + b)) = gB G x y a b)
theorem GS.inW {kd : ZK} {m : ZM} {g c : Int} (h : GS kd m g) (hc : 0 ≤ c ∧ c < 25) : zIn kd (m g 4) 0 c := by
  rw [h.2.1.1]; exact ⟨25, h.2.2.1, hc.1, by omega⟩
theorem GS.inV {kd : ZK} {m : ZM} {g c : Int} (h : GS kd m g) (hc : 0 ≤ c ∧ c < 400) : zIn kd (m g 5) 0 c := by
  rw [h.2.1.2.1]; exact ⟨400, h.2.2.2.1, hc.1, by omega⟩
theorem GS.inB {kd : ZK} {m : ZM} {g c : Int} (h : GS kd m g) (hc : 0 ≤ c ∧ c < 400) : zIn kd (m g 6) 0 c := by
  rw [h.2.1.2.2]; exact ⟨400, h.2.2.2.2, hc.1, by omega⟩
theorem GS.frame {kd : ZK} {m m' : ZM} {g : Int} (h : GS kd m g) (e : m' g = m g) : GS kd m' g := by
  unfold GS; rw [e]; exact h
theorem CG.frame {kd : ZK} {m m' : ZM} {g : Int} {G : GR} (h : CG kd m g G) (e : ∀ a, g ≤ a → a ≤ g + 3 → m' a = m a) : CG kd m' g G := by
  unfold CG GS
  rw [e g (by omega) (by omega), e (g + 1) (by omega) (by omega), e (g + 2) (by omega) (by omega), e (g + 3) (by omega) (by omega)]
  exact h
theorem CG.q {kd : ZK} {m : ZM} {g : Int} {G : GR} (h : CG kd m g G) (p : Int) : nQ G p = if p = 0 then m g 0 else m g 1 := by
  rw [h.2.1.1, h.2.1.2.1, nQ]
theorem CG.a {kd : ZK} {m : ZM} {g : Int} {G : GR} (h : CG kd m g G) (p : Int) : nA G p = if p = 0 then m g 2 else m g 3 := by
  rw [h.2.1.2.2.1, h.2.1.2.2.2, nA]
theorem nQ_o {G : GR} {p : Int} (hp : p = 0 ∨ p = 1) : (p = 0 → nQ G p = G 0 ∧ nQ G (1 - p) = G 1) ∧ (p = 1 → nQ G p = G 1 ∧ nQ G (1 - p) = G 0) := by
  unfold nQ
  constructor <;> intro e <;> subst e <;> simp
theorem nA_o {G : GR} {p : Int} (hp : p = 0 ∨ p = 1) : (p = 0 → nA G p = G 2 ∧ nA G (1 - p) = G 3) ∧ (p = 1 → nA G p = G 3 ∧ nA G (1 - p) = G 2) := by
  unfold nA
  constructor <;> intro e <;> subst e <;> simp
theorem CG.W {kd : ZK} {m : ZM} {g : Int} {G : GR} (h : CG kd m g G) {p x y : Int} (hp : p = 0 ∨ p = 1) (hx : 0 ≤ x ∧ x < nQ G p) (hy : 0 ≤ y ∧ y < nQ G (1 - p)) : m (m g 4) (zC p x y) = pW G p x y := by
  have e := nQ_o (G := G) hp
  rw [h.1.2.1.1, zC, pW]
  rcases hp with q | q <;> subst q
  · have := e.1 rfl
    rw [if_pos rfl, if_pos rfl]; exact h.2.2.1 x y (by omega) (by omega) (by omega) (by omega)
  · have := e.2 rfl
    rw [if_neg (by decide), if_neg (by decide)]; exact h.2.2.1 y x (by omega) (by omega) (by omega) (by omega)
theorem CG.VB {kd : ZK} {m : ZM} {g : Int} {G : GR} (h : CG kd m g G) {p x y a b : Int} (hp : p = 0 ∨ p = 1) (hx : 0 ≤ x ∧ x < nQ G p) (hy : 0 ≤ y ∧ y < nQ G (1 - p)) (ha : 0 ≤ a ∧ a < nA G p) (hb : 0 ≤ b ∧ b < nA G (1 - p)) : m (m g 5) (zS p x y a b) = pV G p x y a b ∧ m (m g 6) (zS p x y a b) = pB G p x y a b := by
  have e := nQ_o (G := G) hp
  have e2 := nA_o (G := G) hp
  rw [h.1.2.1.2.1, h.1.2.1.2.2, zS, zC, pV, pB]
  rcases hp with q | q <;> subst q
  · have := e.1 rfl
    have := e2.1 rfl
    simp only [if_true]; exact h.2.2.2 x y a b (by omega) (by omega) (by omega) (by omega) (by omega) (by omega) (by omega) (by omega)
  · have := e.2 rfl
    have := e2.2 rfl
    simp only [if_neg (show ¬ (1 : Int) = 0 by decide)]; exact h.2.2.2 y x b a (by omega) (by omega) (by omega) (by omega) (by omega) (by omega) (by omega) (by omega)
/-! statics of the class -/
theorem c_Ap_isPlayer {d : Nat} {kd : ZK} {m : ZM} {p : Int} : CtI (d + 1) M_Ap_isPlayer [(0, p)] kd m (qE m (zb (p = 0 ∨ p = 1))) := by
  refine S_Ap_isPlayer ⟨fun h => ⟨(zb_t (Or.inl h)).symm, rfl⟩, fun h => ⟨fun h2 => ⟨(zb_f (by omega)).symm, rfl⟩, fun h2 => ⟨(zb_t (by omega)).symm, rfl⟩⟩⟩
theorem c_Ap_cellOf {d : Nat} {kd : ZK} {m : ZM} {p x y : Int} (hx : 0 ≤ x ∧ x < 1000) (hy : 0 ≤ y ∧ y < 1000) : CtI (d + 1) M_Ap_cellOf [(0, p), (0, x), (0, y)] kd m (qE m (zC p x y)) := by
  refine S_Ap_cellOf ⟨fun h => ⟨?_, rfl⟩, fun h => ⟨?_, rfl⟩⟩
  · rw [iw_s (x := y * 5) (by omega) (by omega), iw_s (by omega) (by omega), zC, if_neg h]
  · have h0 : p = 0 := by omega
    rw [iw_s (x := x * 5) (by omega) (by omega), iw_s (by omega) (by omega), zC, if_pos h0]
theorem CG.W0 {kd : ZK} {m : ZM} {g : Int} {G : GR} (h : CG kd m g G) {x y : Int} (hx : 0 ≤ x ∧ x < G 0) (hy : 0 ≤ y ∧ y < G 1) : m (m g 4) (zC 0 x y) = gW G x y := h.W (p := 0) (Or.inl rfl) hx hy
theorem CG.V0 {kd : ZK} {m : ZM} {g : Int} {G : GR} (h : CG kd m g G) {x y a b : Int} (hx : 0 ≤ x ∧ x < G 0) (hy : 0 ≤ y ∧ y < G 1) (ha : 0 ≤ a ∧ a < G 2) (hb : 0 ≤ b ∧ b < G 3) : m (m g 5) (zS 0 x y a b) = gV G x y a b := (h.VB (p := 0) (Or.inl rfl) hx hy ha hb).1
theorem CG.B0 {kd : ZK} {m : ZM} {g : Int} {G : GR} (h : CG kd m g G) {x y a b : Int} (hx : 0 ≤ x ∧ x < G 0) (hy : 0 ≤ y ∧ y < G 1) (ha : 0 ≤ a ∧ a < G 2) (hb : 0 ≤ b ∧ b < G 3) : m (m g 6) (zS 0 x y a b) = gB G x y a b := (h.VB (p := 0) (Or.inl rfl) hx hy ha hb).2
