/-! THE CLASS: its methods, fourth: games without some weights; the text -/
/-- where weights are gone, as far as i -/
def wzI (p q i x y : Int) : Prop := (p = 0 ∧ x = q ∧ y < i) ∨ (p = 1 ∧ y = q ∧ x < i)
def wzU (G K : GR) (Z : Int → Int → Prop) : Prop := (∀ x y, 0 ≤ x → x < G 0 → 0 ≤ y → y < G 1 → (Z x y → gW K x y = 0) ∧ (¬ Z x y → gW K x y = gW G x y)) ∧ ∀ x y a b, gV K x y a b = gV G x y a b
theorem wzU_1 {G K : GR} {p q i : Int} (hp : p = 0 ∨ p = 1) (hG : G 0 ≤ 5 ∧ G 1 ≤ 5) (hq : 0 ≤ q ∧ q < nQ G p) (hi : 0 ≤ i ∧ i < nQ G (1 - p)) (h : wzU G K (wzI p q i)) : wzU G (gup K (4 + zC p q i) 0) (wzI p q (i + 1)) := by
  have hc : 0 ≤ zC p q i ∧ zC p q i < 25 := by
    rcases hp with e | e
    · subst e; exact zC_in ⟨hq.1, Int.lt_of_lt_of_le hq.2 hG.1⟩ ⟨hi.1, Int.lt_of_lt_of_le hi.2 hG.2⟩
    · subst e; exact zC_in ⟨hq.1, Int.lt_of_lt_of_le hq.2 hG.2⟩ ⟨hi.1, Int.lt_of_lt_of_le hi.2 hG.1⟩
  refine ⟨fun x y x0 x1 y0 y1 => ?_, fun x y a b => by rw [gV_gupW hc.2]; exact h.2 x y a b⟩
  have hh := h.1 x y x0 x1 y0 y1
  rw [gW_gupW]
  have hr : 0 ≤ x ∧ x < 5 ∧ 0 ≤ y ∧ y < 5 := ⟨x0, by omega, y0, by omega⟩
  rcases hp with e | e
  · subst e
    have hq5 : q < 5 := Int.lt_of_lt_of_le hq.2 hG.1
    have hi5 : i < 5 := Int.lt_of_lt_of_le hi.2 hG.2
    rw [zC_v, if_pos rfl]
    rcases Classical.em (5 * x + y = 5 * q + i) with k | k
    · rw [if_pos ⟨hr, k⟩]
      exact ⟨fun _ => rfl, fun z => absurd (Or.inl ⟨rfl, by omega, by omega⟩) z⟩
    · rw [if_neg (fun z => k z.2)]
      refine ⟨fun z => hh.1 ?_, fun z => hh.2 (fun z2 => z ?_)⟩
      · unfold wzI at z ⊢; omega
      · unfold wzI at z2 ⊢; omega
  · subst e
    have hq5 : q < 5 := Int.lt_of_lt_of_le hq.2 hG.2
    have hi5 : i < 5 := Int.lt_of_lt_of_le hi.2 hG.1
    rw [zC_v, if_neg (show ¬ (1 : Int) = 0 by decide)]
    rcases Classical.em (5 * x + y = 5 * i + q) with k | k
    · rw [if_pos ⟨hr, k⟩]
      exact ⟨fun _ => rfl, fun z => absurd (Or.inr ⟨rfl, by omega, by omega⟩) z⟩
    · rw [if_neg (fun z => k z.2)]
      refine ⟨fun z => hh.1 ?_, fun z => hh.2 (fun z2 => z ?_)⟩
      · unfold wzI at z ⊢; omega
      · unfold wzI at z2 ⊢; omega
theorem wzU_0 {G : GR} {Z : Int → Int → Prop} (h : ∀ x y, 0 ≤ x → 0 ≤ y → ¬ Z x y) : wzU G G Z := ⟨fun x y x0 _ y0 _ => ⟨fun z => absurd z (h x y x0 y0), fun _ => rfl⟩, fun _ _ _ _ => rfl⟩
theorem wzU_w {G K : GR} {Z Y : Int → Int → Prop} (hs : K 0 = G 0 ∧ K 1 = G 1 ∧ K 2 = G 2 ∧ K 3 = G 3) (h : wzU G K Z) (e : ∀ x y, 0 ≤ x → x < G 0 → 0 ≤ y → y < G 1 → (Z x y ↔ Y x y)) : isWz G Y K := ⟨hs, fun x y x0 x1 y0 y1 => ⟨fun z => (h.1 x y x0 x1 y0 y1).1 ((e x y x0 x1 y0 y1).2 z), fun z => (h.1 x y x0 x1 y0 y1).2 (fun z2 => z ((e x y x0 x1 y0 y1).1 z2))⟩, h.2⟩
theorem c_Ap_without {d : Nat} {kd : ZK} {m : ZM} {G : GR} {P : Int → GR} {s : Int} {S : Int → GR} {u : Int} {T : Int → Int} {n : Int} (hA : AI kd m G P s S u T n) {p q : Int} (hv : 0 < G 1 → 0 < G 0) : CtI (d + 21) M_Ap_without [(2, 0), (0, p), (0, q)] kd m (fun x m1 => pWithout G p q x ∧ AR kd m m1 G P s S u T n) := by
  have h0 := AR.rf hA
  have hz := hA.z
  have hok := hA.ok.1
  refine S_Ap_without ?_
  refine ⟨hA.o, hA.g.1.1, _, c_Game_hasQuestion hA.g, ?_⟩
  rintro _ _ ⟨rfl, rfl⟩
  refine ⟨fun c1 => ?_, fun c1 => ?_⟩
  · replace c1 := zb_ne0.1 c1
    have hto := tldQ hv c1
    have hp := c1.1
    refine ⟨hA.o, hA.o, hA.sp.1, _, c_Game_become hA.sp hA.g hA.ok (by omega), ?_⟩
    rintro m3 ⟨g3, f3⟩
    have a3 := h0.sx g3.1 f3
    have e03 : m3 0 = m 0 := f3 0 (by omega)
    have e39 : m3 0 9 = m 0 9 := by rw [e03]
    have L0 := zfor2 (nQ G (1 - p)) (fun (i : Int) (mm : ZM) (K : GR) => Ev (d + 21) M_Ap_without 0 0 27 [(2, 0), (0, p), (0, q), (0, i)] [] kd mm (zqI kd (fun x m1 => pWithout G p q x ∧ AR kd m m1 G P s S u T n))) (fun (i : Int) (mm : ZM) (K : GR) => 0 ≤ i ∧ DI kd m3 (m 0 9) G mm K ∧ wzU G K (wzI p q i)) (by
      intro i mm K hb hI KL
      obtain ⟨hi, hD, hW⟩ := hI
      have e0 : mm 0 = m 0 := by rw [hD.2.2.2 0 (by omega), e03]
      have am : AR kd m mm G P s S u T n := a3.sx (by rw [e39]; exact hD.1.1) (fun c hc => hD.2.2.2 c (by rw [e39] at hc; exact hc))
      refine T_Ap_without_27 ?_
      rw [iw_s (x := 1 - p) (by omega) (by omega), e0]
      refine ⟨hA.o, hD.1.1.1, _, c_Game_questionsOf hD.1, ?_⟩
      rintro _ _ ⟨rfl, rfl⟩
      rw [(hD.sq (1 - p)).1, e0]
      have hqq := hA.ok.q p
      have hqo := hA.ok.q (1 - p)
      refine ⟨fun c2 => ?_, fun c2 => ?_⟩
      · have hK0 : 0 < K 0 := by rw [hD.2.2.1.1]; exact hto
        refine ⟨hA.o, hA.o, _, c_Ap_mostOf hA.o (by rw [e0]; exact hA.e2) am.1.tb hD.1 hD.2.1 hK0 (by omega), ?_⟩
        rintro x m6 ⟨i6, f6⟩
        refine ⟨zcs_t c1 ⟨K, hD.2.1, wzU_w hD.2.2.1 hW (fun x y x0 x1 y0 y1 => ?_), i6⟩, am.ft f6⟩
        rcases hp with e | e
        · have e1 : nQ G (1 - p) = G 1 := by rw [e]; rfl
          unfold wzI
          omega
        · have e1 : nQ G (1 - p) = G 0 := by rw [e]; rfl
          unfold wzI
          omega
      · refine ⟨hA.o, hD.1.1.1, _, c_Ap_cellOf (by omega) (by omega), ?_⟩
        rintro _ _ ⟨rfl, rfl⟩
        refine ⟨hD.1.1.inW (zC_in (by omega) (by omega)), ?_⟩
        rw [iw_s (x := i + 1) (by omega) (by omega)]
        exact KL _ (gup K (4 + zC p q i) 0) (by omega) ⟨by omega, hD.putW hp c1.2 ⟨hi, by omega⟩ ⟨by decide, by decide⟩, wzU_1 hp ⟨hok.1.2, hok.2.1.2⟩ c1.2 ⟨hi, by omega⟩ hW⟩)
    exact L0 0 m3 G (hA.ok.q (1 - p)).1 ⟨by decide, DI.rf g3 hA.ok, wzU_0 (fun x y x0 y0 => by unfold wzI; omega)⟩
  · exact ⟨zcs_f (zb_eq0.1 (Classical.not_not.1 c1)) rfl, h0⟩
theorem c_Ap_cut {d : Nat} {kd : ZK} {m : ZM} {G : GR} {P : Int → GR} {s : Int} {S : Int → GR} {u : Int} {T : Int → Int} {n : Int} (hA : AI kd m G P s S u T n) {x y : Int} : CtI (d + 21) M_Ap_cut [(2, 0), (0, x), (0, y)] kd m (fun z m1 => pCut G x y z ∧ AR kd m m1 G P s S u T n) := by
  have h0 := AR.rf hA
  have hz := hA.z
  have hok := hA.ok.1
  have hq0 : nQ G 0 = G 0 := rfl
  have hq1 : nQ G 1 = G 1 := rfl
  refine S_Ap_cut ?_
  refine ⟨hA.o, hA.g.1.1, _, c_Game_hasCell hA.g, ?_⟩
  rintro _ _ ⟨rfl, rfl⟩
  refine ⟨fun c1 => ?_, fun c1 => ?_⟩
  · replace c1 := zb_ne0.1 c1
    have hto := isQ.told c1
    refine ⟨hA.o, hA.o, hA.sp.1, _, c_Game_become hA.sp hA.g hA.ok (by omega), ?_⟩
    rintro m3 ⟨g3, f3⟩
    have a3 := h0.sx g3.1 f3
    have e03 : m3 0 = m 0 := f3 0 (by omega)
    have e39 : m3 0 9 = m 0 9 := by rw [e03]
    rw [e39]
    refine ⟨hA.o, g3.1.1, _, c_Ap_cellOf (by omega) (by omega), ?_⟩
    rintro _ _ ⟨rfl, rfl⟩
    have hD := (DI.rf g3 hA.ok).putW (p := 0) (x := x) (y := y) (v := 0) (Or.inl rfl) c1.1.2 c1.2.2 ⟨by decide, by decide⟩
    refine ⟨g3.1.inW (zC_in (by omega) (by omega)), hA.o, ?_⟩
    generalize hmm : zup m3 (m3 (m 0 9) 4) (zC 0 x y) 0 = mm at *
    have e0 : mm 0 = m 0 := by rw [hD.2.2.2 0 (by omega), e03]
    have am : AR kd m mm G P s S u T n := a3.sx (by rw [e39]; exact hD.1.1) (fun c hc => hD.2.2.2 c (by rw [e39] at hc; exact hc))
    rw [show mm 0 9 = m 0 9 by rw [e0]]
    refine ⟨hA.o, _, c_Ap_mostOf hA.o (by rw [e0]; exact hA.e2) am.1.tb hD.1 hD.2.1 (by rw [hD.2.2.1.1]; exact hto) (by omega), ?_⟩
    rintro z m6 ⟨i6, f6⟩
    have hW := wzU_1 (K := G) (p := 0) (q := x) (i := y) (Or.inl rfl) ⟨hok.1.2, hok.2.1.2⟩ c1.1.2 c1.2.2
    refine ⟨zcs_t c1 ⟨_, hD.2.1, ⟨hD.2.2.1, fun a b a0 a1 b0 b1 => ?_, fun a b e f => ?_⟩, i6⟩, am.ft f6⟩
    · rw [gW_gupW, zC_v, if_pos rfl]
      rcases Classical.em (5 * a + b = 5 * x + y) with k | k
      · rw [if_pos ⟨⟨a0, by omega, b0, by omega⟩, k⟩]
        exact ⟨fun _ => rfl, fun z => absurd ⟨by omega, by omega⟩ z⟩
      · rw [if_neg (fun z => k z.2)]
        exact ⟨fun z => absurd (by omega) k, fun _ => rfl⟩
    · exact gV_gupW (by rw [zC_v, if_pos rfl]; omega)
  · exact ⟨zcs_f (zb_eq0.1 (Classical.not_not.1 c1)) rfl, h0⟩
/-! what is written is a list of bytes -/
def wFl (w : Int) (l : List Int) (s : Int × Int) : Int × Int := l.foldl (pst w) s
def isWr (F : Int → Int × Int → Int × Int) (N : Nat) : Prop := ∃ l : List Int, l.length ≤ N ∧ ∀ w s, F w s = wFl w l s
theorem isWr.c {F H : Int → Int × Int → Int × Int} {N M : Nat} (h : isWr F N) (k : isWr H M) : isWr (fun w s => H w (F w s)) (N + M) := by
  obtain ⟨l, l1, l2⟩ := h
  obtain ⟨r, r1, r2⟩ := k
  exact ⟨l ++ r, by rw [List.length_append]; omega, fun w s => by show H w (F w s) = _; rw [l2, r2]; exact (List.foldl_append).symm⟩
theorem isWr.m {F : Int → Int × Int → Int × Int} {N M : Nat} (h : isWr F N) (k : N ≤ M) : isWr F M := ⟨h.choose, by have := h.choose_spec.1; omega, h.choose_spec.2⟩
theorem isWr.n (N : Nat) : isWr (fun _ s => s) N := ⟨[], Nat.zero_le _, fun _ _ => rfl⟩
theorem isWr.p (c : Int) : isWr (fun w s => pst w s c) 1 := ⟨[c], Nat.le_refl _, fun _ _ => rfl⟩
theorem isWr.f {F : Int → Int → Int × Int → Int × Int} {N : Nat} (h : ∀ i, isWr (fun w s => F i w s) N) : ∀ k : Nat, isWr (fun w s => zfold k (fun i s => F i w s) s) (k * N) := by
  intro k
  induction k with
  | zero => exact (isWr.n 0).m (by omega)
  | succ k ih =>
    have := ih.c (h k)
    refine this.m ?_
    rw [Nat.succ_mul]
    exact Nat.le_refl _
theorem isWr_num (v : Int) : isWr (fun w s => wNum w v s) 3 := by
  unfold wNum
  rcases Classical.em (v < 10) with h | h
  · simp only [if_pos h]; exact ((isWr.p _).c (isWr.p _)).m (by decide)
  · simp only [if_neg h]; exact ((isWr.p _).c ((isWr.p _).c (isWr.p _))).m (by decide)
theorem isWr_word {i : Int} (h : zslen i ≤ 10) : isWr (fun w s => wWord w i s) 10 := by
  unfold wWord
  exact (isWr.f (F := fun k w s => pst w s (zsbyte i k)) (fun k => isWr.p _) (zslen i).toNat).m (by omega)
theorem isWr_spot (x y a b : Int) : isWr (fun w s => wSpot w x y a b s) 12 := by
  unfold wSpot
  exact (((isWr_num x).c (isWr_num y)).c (isWr_num a)).c (isWr_num b)
theorem isWr_cell {i : Int} (h : zslen i ≤ 10) (e x y a b v : Int) : isWr (fun w s => wCell w i e x y a b v s) 25 := by
  unfold wCell
  rcases Classical.em (v = 0) with q | q
  · simp only [if_pos q]; exact isWr.n _
  · simp only [if_neg q]
    rcases Classical.em (e = 0) with k | k
    · simp only [if_pos k]; exact ((isWr_word h).c (isWr_spot x y a b)).m (by decide)
    · simp only [if_neg k]; exact ((isWr_word h).c (isWr_spot x y a b)).c (isWr_num v)
theorem isWr_spots {i : Int} (h : zslen i ≤ 10) (e : Int) {G : GR} (ho : GOK G) (V : Int → Int → Int → Int → Int) : isWr (fun w s => wSpots w i e G V s) 10000 := by
  have h0 := ho.1
  unfold wSpots
  have h4 : ∀ x y a, isWr (fun w s => zfold (G 3).toNat (fun b s => wCell w i e x y a b (V x y a b) s) s) 100 := fun x y a => (isWr.f (fun b => isWr_cell h e x y a b (V x y a b)) (G 3).toNat).m (by omega)
  have h3 : ∀ x y, isWr (fun w s => zfold (G 2).toNat (fun a s => zfold (G 3).toNat (fun b s => wCell w i e x y a b (V x y a b) s) s) s) 400 := fun x y => (isWr.f (h4 x y) (G 2).toNat).m (by omega)
  have h2 : ∀ x, isWr (fun w s => zfold (G 1).toNat (fun y s => zfold (G 2).toNat (fun a s => zfold (G 3).toNat (fun b s => wCell w i e x y a b (V x y a b) s) s) s) s) 2000 := fun x => (isWr.f (h3 x) (G 1).toNat).m (by omega)
  exact (isWr.f h2 (G 0).toNat).m (by omega)
theorem isWr_wei (x y v : Int) : isWr (fun w s => wWei w x y v s) 19 := by
  unfold wWei
  rcases Classical.em (v = 1) with q | q
  · simp only [if_pos q]; exact isWr.n _
  · simp only [if_neg q]; exact ((((isWr_word (by decide +kernel)).c (isWr_num x)).c (isWr_num y)).c (isWr_num v)).m (by decide)
theorem isWr_weis {G : GR} (ho : GOK G) : isWr (fun w s => wWeis w G s) 475 := by
  have h0 := ho.1
  unfold wWeis
  have h2 : ∀ x, isWr (fun w s => zfold (G 1).toNat (fun y s => wWei w x y (gW G x y) s) s) 95 := fun x => (isWr.f (fun y => isWr_wei x y (gW G x y)) (G 1).toNat).m (by omega)
  exact (isWr.f h2 (G 0).toNat).m (by omega)
theorem isWr_all {G : GR} (ho : GOK G) : isWr (fun w s => wAll w G s) 30000 := by
  unfold wAll
  exact ((((((((isWr_word (i := 0) (by decide +kernel)).c (isWr_num (G 0))).c (isWr_num (G 1))).c (isWr_num (G 2))).c (isWr_num (G 3))).c (isWr_weis ho)).c (isWr_spots (i := 9) (by decide +kernel) 0 ho (gV G))).c (isWr_spots (i := 10) (by decide +kernel) 1 ho (gB G))).m (by decide)
theorem wFl_at (w : Int) : ∀ (l : List Int) (a b c : Int), 0 ≤ c → c + l.length ≤ 100000 → (wFl w l (a, c)).2 = c + l.length ∧ ((c ≤ w ∧ w < c + l.length) → (wFl w l (a, c)).1 = (wFl w l (b, c)).1) ∧ (¬ (c ≤ w ∧ w < c + l.length) → (wFl w l (a, c)).1 = a) := by
  intro l
  induction l with
  | nil =>
    intro a b c h0 h1
    exact ⟨by show c = c + ((0 : Nat) : Int); omega, fun h => by simp only [List.length_nil] at h; omega, fun _ => rfl⟩
  | cons x l ih =>
    intro a b c h0 h1
    rw [List.length_cons] at h1 ⊢
    have hs : ∀ a, wFl w (x :: l) (a, c) = wFl w l (if c = w then x else a, c + 1) := fun a => by
      show wFl w l (pst w (a, c) x) = _
      unfold pst
      rw [iw_s (by simp only; omega) (by simp only; omega)]
    rw [hs a, hs b]
    have i1 := ih (if c = w then x else a) (if c = w then x else b) (c + 1) (by omega) (by omega)
    refine ⟨by rw [i1.1]; omega, fun h => ?_, fun h => ?_⟩
    · rcases Classical.em (c = w) with q | q
      · rw [if_pos q, if_pos q]
      · exact i1.2.1 ⟨by omega, by omega⟩
    · rw [i1.2.2 (by omega), if_neg (by omega)]
theorem wAll_k {G : GR} (ho : GOK G) : ∃ L : Int, 0 ≤ L ∧ L ≤ 30000 ∧ (∀ w a, (wAll w G (a, 0)).2 = L) ∧ ∀ w a, 0 ≤ w → w < L → (wAll w G (a, 0)).1 = (wAll w G (0, 0)).1 := by
  obtain ⟨l, l1, l2⟩ := isWr_all ho
  replace l2 : ∀ (w : Int) (s : Int × Int), wAll w G s = wFl w l s := l2
  refine ⟨l.length, by omega, by omega, fun w a => ?_, fun w a h0 h1 => ?_⟩
  · show (wAll w G (a, 0)).2 = _
    rw [l2 w (a, 0), (wFl_at w l a 0 0 (by decide) (by omega)).1]; omega
  · rw [l2 w (a, 0), l2 w (0, 0)]
    exact (wFl_at w l a 0 0 (by decide) (by omega)).2.1 ⟨by omega, by omega⟩
theorem aLen_k {G : GR} (ho : GOK G) (w a : Int) (h : 0 < G 0) : (wAll w G (a, 0)).2 = aLen G := by
  obtain ⟨L, _, _, h1, _⟩ := wAll_k ho
  rw [aLen, zite_t (show told G from h), h1, h1]
theorem c_Ap_letter {d : Nat} {kd : ZK} {m : ZM} {G : GR} {P : Int → GR} {s : Int} {S : Int → GR} {u : Int} {T : Int → Int} {n : Int} (hA : AI kd m G P s S u T n) {k : Int} : CtI (d + 8) M_Ap_letter [(2, 0), (0, k)] kd m (fun x m1 => pLetter G k x ∧ AR kd m m1 G P s S u T n) := by
  have h0 := AR.rf hA
  have hz := hA.z
  refine S_Ap_letter ?_
  simp only [hA.e5]
  refine ⟨fun c1 => ?_, fun c1 => ?_⟩
  · refine ⟨hA.o, hA.o, hA.sc, _, c_Scribe_write hA.sc hA.g hA.ok (by omega), ?_⟩
    rintro x m3 ⟨f3, i3, j3⟩
    have a3 := h0.wk (fun c hc => f3 c (by omega))
    have hx : x = aLen G := by
      rcases Classical.em (0 < G 0) with q | q
      · rw [(i3 q).2]; exact aLen_k hA.ok _ _ q
      · rw [(j3 q).2, aLen, zite_f (show ¬ told G from q)]
    simp only [a3.1.e5]
    refine ⟨fun c2 => ⟨fun c3 => ?_, fun c3 => ?_⟩, fun c2 => ?_⟩
    · exact ⟨zcs_t c1 (zcs_f c2 (zcs_f (by omega) rfl)), a3⟩
    · refine ⟨hA.o, hA.sc, zcs_t c1 (zcs_f c2 (zcs_t (by omega) ?_)), a3⟩
      rcases Classical.em (0 < G 0) with q | q
      · obtain ⟨L, h1, h2, h3, h4⟩ := wAll_k hA.ok
        have hl := aLen_k hA.ok k (m 60 1) q
        rw [h3] at hl
        rw [(i3 q).1]
        exact h4 k _ (by omega) (by omega)
      · have := (j3 q).2
        omega
    · exact ⟨zcs_t c1 (zcs_t (Classical.not_not.1 c2) hx), a3⟩
  · exact ⟨zcs_f c1 rfl, h0⟩
