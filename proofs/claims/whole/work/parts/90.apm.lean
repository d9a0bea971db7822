/-! THE CLASS AS A WHOLE: its state, and what leaves it as it is -/
noncomputable def zif {α : Type} (P : Prop) (a b : α) : α := @ite α P (Classical.propDecidable P) a b
theorem zif_t {α : Type} {P : Prop} {a b : α} (h : P) : zif P a b = a := @if_pos P (Classical.propDecidable P) h α a b
theorem zif_f {α : Type} {P : Prop} {a b : α} (h : ¬ P) : zif P a b = b := @if_neg P (Classical.propDecidable P) h α a b
def zcs (P A B : Prop) : Prop := (P → A) ∧ (¬ P → B)
theorem zcs_t {P A B : Prop} (h : P) (k : A) : zcs P A B := ⟨fun _ => k, fun e => absurd h e⟩
theorem zcs_f {P A B : Prop} (h : ¬ P) (k : B) : zcs P A B := ⟨fun e => absurd e h, fun _ => k⟩
/-- game, past, how many, shelves, which, tape, how long -/
abbrev ST : Type := GR × (Int → GR) × Int × (Int → GR) × Int × (Int → Int) × Int
def AI (kd : ZK) (m : ZM) (G : GR) (P : Int → GR) (s : Int) (S : Int → GR) (u : Int) (T : Int → Int) (n : Int) : Prop :=
  (zobj kd 0 7 ∧ (m 0 0 = 1 ∧ m 0 1 = 3 ∧ m 0 2 = 45 ∧ m 0 3 = 52 ∧ m 0 4 = 56 ∧ m 0 5 = 60 ∧ m 0 6 = 61) ∧ m 0 7 = u ∧ ((m 0 8 = 70 ∧ m 0 9 = 74) ∨ (m 0 8 = 74 ∧ m 0 9 = 70)))
  ∧ (CG kd m (m 0 8) G ∧ GOK G) ∧ GS kd m (m 0 9) ∧ PC kd m P s ∧ (TB kd m ∧ DU kd m ∧ SH kd m ∧ zobj kd 60 3) ∧ TP kd m T n
  ∧ (zarr kd 61 3 2 ∧ m 61 0 = 62 ∧ m 61 1 = 66 ∧ GS kd m 62 ∧ GS kd m 66) ∧ (0 ≤ u ∧ u ≤ 3) ∧ (sbit u 0 → CG kd m 62 (S 0) ∧ GOK (S 0)) ∧ (sbit u 1 → CG kd m 66 (S 1) ∧ GOK (S 1))
def AR (kd : ZK) (m m1 : ZM) (G : GR) (P : Int → GR) (s : Int) (S : Int → GR) (u : Int) (T : Int → Int) (n : Int) : Prop := AI kd m1 G P s S u T n ∧ ∀ c, 77 < c → m1 c = m c
def AJ (kd : ZK) (m m1 : ZM) (st : ST) : Prop := AR kd m m1 st.1 st.2.1 st.2.2.1 st.2.2.2.1 st.2.2.2.2.1 st.2.2.2.2.2.1 st.2.2.2.2.2.2
section
variable {kd : ZK} {m : ZM} {G : GR} {P : Int → GR} {s : Int} {S : Int → GR} {u : Int} {T : Int → Int} {n : Int}
theorem AI.o (h : AI kd m G P s S u T n) : zobj kd 0 7 := h.1.1
theorem AI.e0 (h : AI kd m G P s S u T n) : m 0 0 = 1 := h.1.2.1.1
theorem AI.e1 (h : AI kd m G P s S u T n) : m 0 1 = 3 := h.1.2.1.2.1
theorem AI.e2 (h : AI kd m G P s S u T n) : m 0 2 = 45 := h.1.2.1.2.2.1
theorem AI.e3 (h : AI kd m G P s S u T n) : m 0 3 = 52 := h.1.2.1.2.2.2.1
theorem AI.e4 (h : AI kd m G P s S u T n) : m 0 4 = 56 := h.1.2.1.2.2.2.2.1
theorem AI.e5 (h : AI kd m G P s S u T n) : m 0 5 = 60 := h.1.2.1.2.2.2.2.2.1
theorem AI.e6 (h : AI kd m G P s S u T n) : m 0 6 = 61 := h.1.2.1.2.2.2.2.2.2
theorem AI.e7 (h : AI kd m G P s S u T n) : m 0 7 = u := h.1.2.2.1
theorem AI.z (h : AI kd m G P s S u T n) : (69 < m 0 8 ∧ m 0 8 ≤ 74) ∧ (69 < m 0 9 ∧ m 0 9 ≤ 74) ∧ (m 0 8 + 3 < m 0 9 ∨ m 0 9 + 3 < m 0 8) := by
  have := h.1.2.2.2
  omega
theorem AI.g (h : AI kd m G P s S u T n) : CG kd m (m 0 8) G := h.2.1.1
theorem AI.ok (h : AI kd m G P s S u T n) : GOK G := h.2.1.2
theorem AI.sp (h : AI kd m G P s S u T n) : GS kd m (m 0 9) := h.2.2.1
theorem AI.pc (h : AI kd m G P s S u T n) : PC kd m P s := h.2.2.2.1
theorem AI.tb (h : AI kd m G P s S u T n) : TB kd m := h.2.2.2.2.1.1
theorem AI.du (h : AI kd m G P s S u T n) : DU kd m := h.2.2.2.2.1.2.1
theorem AI.sh (h : AI kd m G P s S u T n) : SH kd m := h.2.2.2.2.1.2.2.1
theorem AI.sc (h : AI kd m G P s S u T n) : zobj kd 60 3 := h.2.2.2.2.1.2.2.2
theorem AI.tp (h : AI kd m G P s S u T n) : TP kd m T n := h.2.2.2.2.2.1
theorem AI.sv (h : AI kd m G P s S u T n) : zarr kd 61 3 2 ∧ m 61 0 = 62 ∧ m 61 1 = 66 ∧ GS kd m 62 ∧ GS kd m 66 := h.2.2.2.2.2.2.1
theorem AI.u3 (h : AI kd m G P s S u T n) : 0 ≤ u ∧ u ≤ 3 := h.2.2.2.2.2.2.2.1
theorem AI.s0 (h : AI kd m G P s S u T n) (b : sbit u 0) : CG kd m 62 (S 0) ∧ GOK (S 0) := h.2.2.2.2.2.2.2.2.1 b
theorem AI.s1 (h : AI kd m G P s S u T n) (b : sbit u 1) : CG kd m 66 (S 1) ∧ GOK (S 1) := h.2.2.2.2.2.2.2.2.2 b
theorem TB.o {kd : ZK} {m : ZM} (h : TB kd m) : zobj kd 45 5 := by
  obtain ⟨a, b, c, e, f, h⟩ := h
  exact h.1
theorem AI.t5 (h : AI kd m G P s S u T n) : zobj kd 45 5 := h.tb.o
theorem TB.frame {kd : ZK} {m m1 : ZM} (h : TB kd m) (e : m1 45 = m 45) : TB kd m1 := by
  obtain ⟨a, b, c, f, w, h⟩ := h
  exact ⟨a, b, c, f, w, h.frame e⟩
theorem TP.frame {kd : ZK} {m m1 : ZM} {T : Int → Int} {n : Int} (h : TP kd m T n) (e : m1 1 = m 1) (e2 : m1 2 = m 2) : TP kd m1 T n := by
  unfold TP; rw [e, e2]; exact h
theorem TL.tb {kd : ZK} {m : ZM} {nq na ng nr w : Int} {f : Int → Int → Int → Int} (h : TL kd m nq na ng nr w f) : TB kd m := ⟨_, _, _, _, _, h.1⟩
theorem AI.fr {m1 : ZM} {G' : GR} {P' : Int → GR} {s' : Int} {T' : Int → Int} {n' : Int} (h : AI kd m G P s S u T n) (e0 : m1 0 = m 0) (e6 : ∀ c, 61 ≤ c → c ≤ 69 → m1 c = m c) (hg : CG kd m1 (m 0 8) G' ∧ GOK G') (hs : GS kd m1 (m 0 9)) (hp : PC kd m1 P' s') (ht : TB kd m1) (hd : DU kd m1) (hh : SH kd m1) (hT : TP kd m1 T' n') : AI kd m1 G' P' s' S u T' n' := by
  obtain ⟨h1, h2, h3, h4, ⟨h4a, h4b, h4c, h5⟩, h6, ⟨h7, h8, h9, h10, h11⟩, h12, h13, h14⟩ := h
  unfold AI
  rw [e0, e6 61 (by decide) (by decide)]
  exact ⟨h1, hg, hs, hp, ⟨ht, hd, hh, h5⟩, hT, ⟨h7, h8, h9, h10.frame (e6 62 (by decide) (by decide)), h11.frame (e6 66 (by decide) (by decide))⟩, h12, fun b => ⟨(h13 b).1.frame (fun a a1 a2 => e6 a (by omega) (by omega)), (h13 b).2⟩, fun b => ⟨(h14 b).1.frame (fun a a1 a2 => e6 a (by omega) (by omega)), (h14 b).2⟩⟩
theorem AR.rf (h : AI kd m G P s S u T n) : AR kd m m G P s S u T n := ⟨h, fun _ _ => rfl⟩
theorem AR.act {m1 m2 : ZM} {P' : Int → GR} {s' : Int} (h : AR kd m m1 G P s S u T n) (hp : PC kd m2 P' s') (e : ∀ c, (c < 3 ∨ 44 < c) → m2 c = m1 c) : AR kd m m2 G P' s' S u T n := by
  have z := h.1.z
  exact ⟨h.1.fr (e 0 (by omega)) (fun c c1 c2 => e c (by omega)) ⟨h.1.g.frame (fun a a1 a2 => e a (by omega)), h.1.ok⟩ (h.1.sp.frame (e _ (by omega))) hp (h.1.tb.frame (e 45 (by omega))) (h.1.du.frame (e 52 (by omega))) (h.1.sh.frame (e 56 (by omega))) (h.1.tp.frame (e 1 (by omega)) (e 2 (by omega))), fun c hc => by rw [e c (by omega), h.2 c hc]⟩
theorem AR.gm {m1 m2 : ZM} {K : GR} (h : AR kd m m1 G P s S u T n) (hg : CG kd m2 (m1 0 8) K) (ho : GOK K) (e : ∀ c, (c < m1 0 8 ∨ m1 0 8 + 3 < c) → m2 c = m1 c) : AR kd m m2 K P s S u T n := by
  have z := h.1.z
  exact ⟨h.1.fr (e 0 (by omega)) (fun c c1 c2 => e c (by omega)) ⟨hg, ho⟩ (h.1.sp.frame (e _ (by omega))) (h.1.pc.frame (fun c c1 c2 => e c (by omega))) (h.1.tb.frame (e 45 (by omega))) (h.1.du.frame (e 52 (by omega))) (h.1.sh.frame (e 56 (by omega))) (h.1.tp.frame (e 1 (by omega)) (e 2 (by omega))), fun c hc => by rw [e c (by omega), h.2 c hc]⟩
theorem AR.di {m1 m2 : ZM} {K : GR} (h : AR kd m m1 G P s S u T n) (k : DI kd m1 (m1 0 8) G m2 K) : AR kd m m2 K P s S u T n := h.gm k.1 k.2.1 k.2.2.2
theorem AR.sx {m1 m2 : ZM} (h : AR kd m m1 G P s S u T n) (hs : GS kd m2 (m1 0 9)) (e : ∀ c, (c < m1 0 9 ∨ m1 0 9 + 3 < c) → m2 c = m1 c) : AR kd m m2 G P s S u T n := by
  have z := h.1.z
  exact ⟨h.1.fr (e 0 (by omega)) (fun c c1 c2 => e c (by omega)) ⟨h.1.g.frame (fun a a1 a2 => e a (by omega)), h.1.ok⟩ hs (h.1.pc.frame (fun c c1 c2 => e c (by omega))) (h.1.tb.frame (e 45 (by omega))) (h.1.du.frame (e 52 (by omega))) (h.1.sh.frame (e 56 (by omega))) (h.1.tp.frame (e 1 (by omega)) (e 2 (by omega))), fun c hc => by rw [e c (by omega), h.2 c hc]⟩
/-- what a table's work may change -/
def FT (kd : ZK) (m m1 : ZM) : Prop := (∀ c, (c < 45 ∨ 51 < c) → m1 c = m c) ∧ TB kd m1
theorem FT.tr {kd : ZK} {m m1 m2 : ZM} (h : FT kd m m1) (k : FT kd m1 m2) : FT kd m m2 := ⟨fun c hc => by rw [k.1 c hc, h.1 c hc], k.2⟩
theorem AR.ft {m1 m2 : ZM} (h : AR kd m m1 G P s S u T n) (k : FT kd m1 m2) : AR kd m m2 G P s S u T n := by
  have z := h.1.z
  have e := k.1
  exact ⟨h.1.fr (e 0 (by omega)) (fun c c1 c2 => e c (by omega)) ⟨h.1.g.frame (fun a a1 a2 => e a (by omega)), h.1.ok⟩ (h.1.sp.frame (e _ (by omega))) (h.1.pc.frame (fun c c1 c2 => e c (by omega))) k.2 (h.1.du.frame (e 52 (by omega))) (h.1.sh.frame (e 56 (by omega))) (h.1.tp.frame (e 1 (by omega)) (e 2 (by omega))), fun c hc => by rw [e c (by omega), h.2 c hc]⟩
/-- rows, marks, the scribe -/
theorem AR.wk {m1 m2 : ZM} (h : AR kd m m1 G P s S u T n) (e : ∀ c, ((c < 53 ∨ 60 < c) ∨ c = 56) → m2 c = m1 c) : AR kd m m2 G P s S u T n := by
  have z := h.1.z
  exact ⟨h.1.fr (e 0 (by omega)) (fun c c1 c2 => e c (by omega)) ⟨h.1.g.frame (fun a a1 a2 => e a (by omega)), h.1.ok⟩ (h.1.sp.frame (e _ (by omega))) (h.1.pc.frame (fun c c1 c2 => e c (by omega))) (h.1.tb.frame (e 45 (by omega))) (h.1.du.frame (e 52 (by omega))) (h.1.sh.frame (e 56 (by omega))) (h.1.tp.frame (e 1 (by omega)) (e 2 (by omega))), fun c hc => by rw [e c (by omega), h.2 c hc]⟩
theorem AR.tx {m1 m2 : ZM} {T' : Int → Int} {n' : Int} (h : AR kd m m1 G P s S u T n) (hT : TP kd m2 T' n') (e : ∀ c, c ≠ 1 → c ≠ 2 → m2 c = m1 c) : AR kd m m2 G P s S u T' n' := by
  have z := h.1.z
  exact ⟨h.1.fr (e 0 (by omega) (by omega)) (fun c c1 c2 => e c (by omega) (by omega)) ⟨h.1.g.frame (fun a a1 a2 => e a (by omega) (by omega)), h.1.ok⟩ (h.1.sp.frame (e _ (by omega) (by omega))) (h.1.pc.frame (fun c c1 c2 => e c (by omega) (by omega))) (h.1.tb.frame (e 45 (by omega) (by omega))) (h.1.du.frame (e 52 (by omega) (by omega))) (h.1.sh.frame (e 56 (by omega) (by omega))) hT, fun c hc => by rw [e c (by omega) (by omega), h.2 c hc]⟩
/-- the two games change places -/
theorem AR.sw {m1 : ZM} {K : GR} (h : AR kd m m1 G P s S u T n) (hg : CG kd m1 (m1 0 9) K) (ho : GOK K) : AR kd m (zup (zup m1 0 8 (m1 0 9)) 0 9 (m1 0 8)) K P s S u T n := by
  have z := h.1.z
  have hg0 := h.1.g
  have e : ∀ c, c ≠ 0 → (zup (zup m1 0 8 (m1 0 9)) 0 9 (m1 0 8)) c = m1 c := fun c hc => by rw [zup_off hc, zup_off hc]
  have e2 : ∀ k, k ≠ 8 → k ≠ 9 → (zup (zup m1 0 8 (m1 0 9)) 0 9 (m1 0 8)) 0 k = m1 0 k := fun k k1 k2 => by rw [zup_at, gup_off k2, zup_at, gup_off k1]
  have e8 : (zup (zup m1 0 8 (m1 0 9)) 0 9 (m1 0 8)) 0 8 = m1 0 9 := by rw [zup_at, gup_off (by decide), zup_at, gup_at]
  have e9 : (zup (zup m1 0 8 (m1 0 9)) 0 9 (m1 0 8)) 0 9 = m1 0 8 := by rw [zup_at, gup_at]
  generalize hm2 : zup (zup m1 0 8 (m1 0 9)) 0 9 (m1 0 8) = m2 at *
  obtain ⟨⟨⟨h1, h1a, h1b, h1c⟩, h2, h3, h4, ⟨h4a, h4b, h4c, h5⟩, h6, ⟨h7, h8, h9, h10, h11⟩, h12, h13, h14⟩, hf⟩ := h
  refine ⟨?_, fun c hc => by rw [e c (by omega), hf c hc]⟩
  unfold AI
  rw [e8, e9, e 61 (by decide), e2 0 (by decide) (by decide), e2 1 (by decide) (by decide), e2 2 (by decide) (by decide), e2 3 (by decide) (by decide), e2 4 (by decide) (by decide), e2 5 (by decide) (by decide), e2 6 (by decide) (by decide), e2 7 (by decide) (by decide)]
  exact ⟨⟨h1, h1a, h1b, by omega⟩, ⟨hg.frame (fun a a1 a2 => e a (by omega)), ho⟩, hg0.1.frame (e _ (by omega)), h4.frame (fun c c1 c2 => e c (by omega)), ⟨h4a.frame (e 45 (by decide)), h4b.frame (e 52 (by decide)), h4c.frame (e 56 (by decide)), h5⟩, h6.frame (e 1 (by decide)) (e 2 (by decide)), ⟨h7, h8, h9, h10.frame (e 62 (by decide)), h11.frame (e 66 (by decide))⟩, h12, fun b => ⟨(h13 b).1.frame (fun a a1 a2 => e a (by omega)), (h13 b).2⟩, fun b => ⟨(h14 b).1.frame (fun a a1 a2 => e a (by omega)), (h14 b).2⟩⟩
end
/-- the most that two rows are worth -/
def isMx (G : GR) (x : Int) : Prop := isMost (G 0) (G 2) (G 1) (G 3) (fP G 0) x
theorem isMx_eq {G : GR} {x y : Int} (h : isMx G x) (k : isMx G y) : x = y := isMost_eq h k
theorem tHigh_nn {nq ng nr : Int} {f : Int → Int → Int → Int} {r : Int → Int} (h : ∀ q a i, 0 ≤ f q a i) : 0 ≤ tHigh nq ng nr f r := by
  unfold tHigh
  refine zsum_nn _ (fun g _ _ => ?_)
  unfold tHi
  obtain ⟨j, _, _, e⟩ := zhi_at (h := fun j => zS_ f r nq (g * nr + j)) (nr - 1).toNat
  rw [e]
  exact zsum_nn _ (fun q _ _ => h _ _ _)
theorem isMA_0 {G : GR} (ho : GOK G) (ht : 0 < G 0) {x : Int} (h : isMA (G 0) (G 2) (G 1) (G 3) (fP G 0) 0 x) : isMx G x := by
  have htt := ho.2.1 ht
  exact h.most (r := fun _ => 0) (fun q _ _ => ⟨Int.le_refl _, by show (0 : Int) < G 2; omega⟩) (tHigh_nn (fun q a i => (fP_in ho 0 q a i).1))
theorem isMx_in {G : GR} (ho : GOK G) {x : Int} (h : isMx G x) : 0 ≤ x ∧ x ≤ 225 := by
  obtain ⟨r, h1, h2⟩ := h.2
  have h0 := ho.1
  have a := tHigh_nn (nq := G 0) (ng := G 1) (nr := G 3) (r := r) (fun q a i => (fP_in ho 0 q a i).1)
  have b := zsum_bd (C := 45) (f := fun g => tHi (G 0) (G 3) (fP G 0) r g) (G 1).toNat (fun g _ _ => zhi_bd _ (fun j _ _ => by
    have := zsum_bd (C := 9) (f := fun q => fP G 0 q (r q) (g * G 3 + j)) (G 0).toNat (fun q _ _ => by have := fP_in ho 0 q (r q) (g * G 3 + j); omega)
    unfold zS_
    omega))
  unfold tHigh at h2 a
  omega
def lowL (G : GR) : Int := zlo (G 2 ^ (G 0).toNat - 1).toNat fun c => tLow (G 0) (G 1) (G 3) (fP G 0) (erow (G 0) (G 2) c)
def lowM (G : GR) (p : Int) : Int := zhi (nA G p ^ (nQ G p).toNat - 1).toNat fun c => tLow (nQ G p) (nQ G (1 - p)) (nA G (1 - p)) (fP G p) (erow (nQ G p) (nA G p) c)
def told (G : GR) : Prop := 0 < G 0
