/-! THE MODEL, thirteenth: its whole state; what changes it, first -/
def sgb (x : Int) : Int := if x < 128 then x else x - 256
/-- the model bears a state -/
def MB (kd : ZK) (m : ZM) (G : GR) (P : Int → GR) (s : Int) (S : Int → GR) (u : Int) (T : Int → Int) (n : Int) : Prop :=
  MS kd m ∧ (∀ i, 0 ≤ i → i < 829 → m 79 i = G i) ∧ (m 78 6 = s ∧ ∀ k i, 0 ≤ k → k < s → 0 ≤ i → i < 829 → m 82 (829 * k + i) = P k i) ∧ ((∀ k, 0 ≤ k → k < 2 → m 84 k = zb (sbit u k)) ∧ ∀ k i, 0 ≤ k → k < 2 → sbit u k → 0 ≤ i → i < 829 → m 83 (829 * k + i) = S k i) ∧ m 78 8 = n ∧ ∀ i, 0 ≤ i → i < n → m 85 i = sgb (T i)
/-- what a state is -/
def SO (G : GR) (s u : Int) (T : Int → Int) (n : Int) : Prop := GOK G ∧ (0 ≤ s ∧ s ≤ 10) ∧ (0 ≤ u ∧ u ≤ 3) ∧ (0 ≤ n ∧ n ≤ 400) ∧ ∀ i, 0 ≤ i → i < n → 0 ≤ T i ∧ T i ≤ 255
def MJ (kd : ZK) (m m1_q : ZM) (st : ST) : Prop := MB kd m1_q st.1 st.2.1 st.2.2.1 st.2.2.2.1 st.2.2.2.2.1 st.2.2.2.2.2.1 st.2.2.2.2.2.2 ∧ ∀ c, c < 78 → m1_q c = m c
/-- after the past has taken the game -/
def KP (kd : ZK) (m m1_q : ZM) (G : GR) (P : Int → GR) (s : Int) (S : Int → GR) (u : Int) (T : Int → Int) (n : Int) : Prop := MB kd m1_q G (pushP P s G) (zmin (s + 1) 10) S u T n ∧ (∀ c, c ≠ 78 → c ≠ 82 → m1_q c = m c) ∧ ∀ k, k ≠ 6 → m1_q 78 k = m 78 k
/-- the row bears K, all else is as before -/
def DM (m : ZM) (G : GR) (mm : ZM) (K : GR) : Prop := (∀ i, 0 ≤ i → i < 829 → mm 79 i = K i) ∧ GOK K ∧ (K 0 = G 0 ∧ K 1 = G 1 ∧ K 2 = G 2 ∧ K 3 = G 3) ∧ ∀ c, c ≠ 79 → mm c = m c
theorem MB.g {kd : ZK} {m : ZM} {G : GR} {P : Int → GR} {s : Int} {S : Int → GR} {u : Int} {T : Int → Int} {n : Int} (h : MB kd m G P s S u T n) (ho : GOK G) : MG kd m G := ⟨h.1, h.2.1, ho⟩
theorem MB.row {kd : ZK} {m m1_q : ZM} {G K : GR} {P : Int → GR} {s : Int} {S : Int → GR} {u : Int} {T : Int → Int} {n : Int} (h : MB kd m G P s S u T n) (e : ∀ c, c ≠ 79 → m1_q c = m c) (hk : ∀ i, 0 ≤ i → i < 829 → m1_q 79 i = K i) : MB kd m1_q K P s S u T n := by
  unfold MB
  rw [e 78 (by decide), e 82 (by decide), e 83 (by decide), e 84 (by decide), e 85 (by decide)]
  exact ⟨h.1.fr (e 78 (by decide)), hk, h.2.2⟩
theorem MB.mf {kd : ZK} {m m1_q : ZM} {G : GR} {P : Int → GR} {s : Int} {S : Int → GR} {u : Int} {T : Int → Int} {n : Int} (h : MB kd m G P s S u T n) (k : MF m m1_q) : MB kd m1_q G P s S u T n := by
  unfold MB
  rw [k.1 79 (by decide), k.1 82 (by decide), k.1 83 (by decide), k.1 84 (by decide), k.1 85 (by decide), k.2 6 (by decide), k.2 8 (by decide)]
  refine ⟨⟨h.1.1, ?_⟩, h.2⟩
  unfold MR
  rw [k.2 0 (by decide), k.2 1 (by decide), k.2 2 (by decide), k.2 3 (by decide), k.2 4 (by decide), k.2 5 (by decide), k.2 7 (by decide), k.2 12 (by decide), k.2 13 (by decide), k.2 15 (by decide), k.2 17 (by decide), k.2 18 (by decide), k.2 19 (by decide), k.2 20 (by decide), k.2 21 (by decide), k.2 22 (by decide)]
  exact h.1.2
theorem MJ.rf {kd : ZK} {m : ZM} {G : GR} {P : Int → GR} {s : Int} {S : Int → GR} {u : Int} {T : Int → Int} {n : Int} (h : MB kd m G P s S u T n) : MJ kd m m (G, P, s, S, u, T, n) := ⟨h, fun _ _ => rfl⟩
theorem MJ.mf {kd : ZK} {m m1_q : ZM} {G : GR} {P : Int → GR} {s : Int} {S : Int → GR} {u : Int} {T : Int → Int} {n : Int} (h : MB kd m G P s S u T n) (k : MF m m1_q) : MJ kd m m1_q (G, P, s, S, u, T, n) := ⟨h.mf k, fun c hc_q => k.1 c (by omega)⟩
theorem DM.rf {kd : ZK} {m : ZM} {G : GR} (h : MG kd m G) : DM m G m G := ⟨h.2.1, h.ok, ⟨rfl, rfl, rfl, rfl⟩, fun _ _ => rfl⟩
theorem DM.mg {kd : ZK} {m mm : ZM} {G K : GR} (h : DM m G mm K) (hs : MS kd m) : MG kd mm K := ⟨hs.fr (h.2.2.2 78 (by decide)), h.1, h.2.1⟩
theorem DM.sq {m mm : ZM} {G K : GR} (h : DM m G mm K) (p : Int) : nQ K p = nQ G p ∧ nA K p = nA G p := by
  unfold nQ nA
  rw [h.2.2.1.1, h.2.2.1.2.1, h.2.2.1.2.2.1, h.2.2.1.2.2.2]
  exact ⟨rfl, rfl⟩
theorem DM.put {m mm : ZM} {G K : GR} (h : DM m G mm K) {k v : Int} (hk : 4 ≤ k) (ho : GOK (gup K k v)) : DM m G (zup mm 79 k v) (gup K k v) := by
  refine ⟨fun i i0_q i1_q => ?_, ho, gup_sz hk h.2.2.1, fun c hc_q => by rw [zup_off hc_q]; exact h.2.2.2 c hc_q⟩
  rw [zup_at]
  unfold gup
  split
  · rfl
  · exact h.1 i i0_q i1_q
theorem DM.putV {m mm : ZM} {G K : GR} (h : DM m G mm K) {p x y a b v : Int} (hp : p = 0 ∨ p = 1) (hx : 0 ≤ x ∧ x < nQ G p) (hy : 0 ≤ y ∧ y < nQ G (1 - p)) (ha_q : 0 ≤ a ∧ a < nA G p) (hb_q : 0 ≤ b ∧ b < nA G (1 - p)) (hv : 0 ≤ v ∧ v ≤ 1) : DM m G (zup mm 79 (29 + zS p x y a b) v) (gup K (29 + zS p x y a b) v) := by
  have q1_q := h.sq p
  have q2_q := h.sq (1 - p)
  rw [← q1_q.1] at hx
  rw [← q1_q.2] at ha_q
  rw [← q2_q.1] at hy
  rw [← q2_q.2] at hb_q
  have b1 := h.2.1.q p
  have b2 := h.2.1.q (1 - p)
  have b3 := h.2.1.a p
  have b4 := h.2.1.a (1 - p)
  have z := zS_in (p := p) (x := x) (y := y) (a := a) (b := b) (by omega) (by omega) (by omega) (by omega)
  exact h.put (by omega) (h.2.1.gupVp hp hx hy ha_q hb_q hv)
theorem DM.putB {m mm : ZM} {G K : GR} (h : DM m G mm K) {p x y a b v : Int} (hp : p = 0 ∨ p = 1) (hx : 0 ≤ x ∧ x < nQ G p) (hy : 0 ≤ y ∧ y < nQ G (1 - p)) (ha_q : 0 ≤ a ∧ a < nA G p) (hb_q : 0 ≤ b ∧ b < nA G (1 - p)) (hv : 0 ≤ v ∧ v ≤ 12) : DM m G (zup mm 79 (429 + zS p x y a b) v) (gup K (429 + zS p x y a b) v) := by
  have q1_q := h.sq p
  have q2_q := h.sq (1 - p)
  rw [← q1_q.1] at hx
  rw [← q1_q.2] at ha_q
  rw [← q2_q.1] at hy
  rw [← q2_q.2] at hb_q
  have b1 := h.2.1.q p
  have b2 := h.2.1.q (1 - p)
  have b3 := h.2.1.a p
  have b4 := h.2.1.a (1 - p)
  have z := zS_in (p := p) (x := x) (y := y) (a := a) (b := b) (by omega) (by omega) (by omega) (by omega)
  exact h.put (by omega) (h.2.1.gupBp hp hx hy ha_q hb_q hv)
theorem DM.putW {m mm : ZM} {G K : GR} (h : DM m G mm K) {p x y v : Int} (hp : p = 0 ∨ p = 1) (hx : 0 ≤ x ∧ x < nQ G p) (hy : 0 ≤ y ∧ y < nQ G (1 - p)) (hv : 0 ≤ v ∧ v ≤ 9) : DM m G (zup mm 79 (4 + zC p x y) v) (gup K (4 + zC p x y) v) := by
  have q1_q := h.sq p
  have q2_q := h.sq (1 - p)
  rw [← q1_q.1] at hx
  rw [← q2_q.1] at hy
  have b1 := h.2.1.q p
  have b2 := h.2.1.q (1 - p)
  have z := zC_in (p := p) (x := x) (y := y) (by omega) (by omega)
  exact h.put (by omega) (h.2.1.gupWp hp hx hy hv)
theorem KP.dm {kd : ZK} {m m1_q mm : ZM} {G K : GR} {P : Int → GR} {s : Int} {S : Int → GR} {u : Int} {T : Int → Int} {n : Int} (h : KP kd m m1_q G P s S u T n) (k : DM m1_q G mm K) : MJ kd m mm (acted (G, P, s, S, u, T, n) K) := ⟨h.1.row k.2.2.2 k.1, fun c hc_q => by rw [k.2.2.2 c (by omega), h.2.1 c (by omega) (by omega)]⟩
/-- a row is moved -/
def MV (m : ZM) (a i b j : Int) (m1_q : ZM) : Prop := (∀ c, c ≠ b → m1_q c = m c) ∧ (∀ q, 0 ≤ q → q < 829 → m1_q b (829 * j + q) = m a (829 * i + q)) ∧ ∀ q, (q < 829 * j ∨ 829 * j + 829 ≤ q) → m1_q b q = m b q
theorem c_Mo_moves {d : Nat} {kd : ZK} {m : ZM} {a b i j : Int} {A B : Nat} (hza : zarr kd a 0 A) (hzb : zarr kd b 0 B) (hi_q : (0 ≤ i ∧ i ≤ 9) ∧ 829 * i + 829 ≤ A) (hj : (0 ≤ j ∧ j ≤ 9) ∧ 829 * j + 829 ≤ B) (hn : a ≠ b ∨ i ≠ j) : CtV (d + 1) M_Mo_moves [(2, a), (0, i), (2, b), (0, j)] kd m (fun m1_q => MV m a i b j m1_q) := by
  have qL0 := zfor1 (829) (fun (k : Int) (mm : ZM) => Ev (d + 1) M_Mo_moves 0 0 3 [(2, a), (0, i), (2, b), (0, j), (0, k)] [] kd mm (zqV kd (fun m1_q => MV m a i b j m1_q))) (fun (k : Int) (mm : ZM) => 0 ≤ k ∧ (∀ c, c ≠ b → mm c = m c) ∧ (∀ q, 0 ≤ q → q < k → mm b (829 * j + q) = m a (829 * i + q)) ∧ ∀ q, (q < 829 * j ∨ 829 * j + k ≤ q) → mm b q = m b q) (by
    intro k mm hb_q hI0 qKL0
    obtain ⟨hk0, hF, hX, hY⟩ := hI0
    refine T_Mo_moves_3 ?_
    refine ⟨fun qc_1 => ?_, fun qc_1 => ?_⟩
    · skip
      exact ⟨hF, fun q q0 q1_q => hX q q0 (by omega), fun q hq => hY q (by omega)⟩
    · skip
      refine ⟨(by rw [iw_s (x := 829 * i) (by omega) (by omega), iw_s (x := 829 * i + k) (by omega) (by omega)]; exact ⟨A, hza, by omega, by omega⟩), (by rw [iw_s (x := 829 * j) (by omega) (by omega), iw_s (x := 829 * j + k) (by omega) (by omega)]; exact ⟨B, hzb, by omega, by omega⟩), ?_⟩
      have hv : mm a (829 * i + k) = m a (829 * i + k) := by
        rcases Classical.em (a = b) with e | e
        · rw [e]; exact hY _ (by omega)
        · rw [hF a e]
      rw [iw_s (x := 829 * i) (by omega) (by omega), iw_s (x := 829 * i + k) (by omega) (by omega), iw_s (x := 829 * j) (by omega) (by omega), iw_s (x := 829 * j + k) (by omega) (by omega), hv]
      rw [iw_s (x := k + 1) (by omega) (by omega)]
      refine qKL0 _ (by omega) ⟨by omega, fun c hc_q => by rw [zup_off hc_q]; exact hF c hc_q, fun q q0 q1_q => ?_, fun q hq => ?_⟩
      · rw [zup_at]
        rcases (show q = k ∨ q < k by omega) with e | e
        · rw [e, gup_at]
        · rw [gup_off (by omega)]; exact hX q q0 e
      · rw [zup_at, gup_off (by omega)]; exact hY q (by omega))
  refine S_Mo_moves ?_
  exact qL0 0 m (by decide) ⟨by decide, fun _ _ => rfl, fun q q0 q1_q => absurd q1_q (by omega), fun _ _ => rfl⟩
theorem c_Mo_keepsPast {d : Nat} {kd : ZK} {m : ZM} {G : GR} {P : Int → GR} {s : Int} {S : Int → GR} {u : Int} {T : Int → Int} {n : Int} (h : MB kd m G P s S u T n) (hs : 0 ≤ s ∧ s ≤ 10) : CtV (d + 2) M_Mo_keepsPast [(2, 78)] kd m (fun m1_q => KP kd m m1_q G P s S u T n) := by
  have key : ∀ (mx : ZM) (t : Int), MS kd mx → mx 78 6 = t → 0 ≤ t → t ≤ 9 → zmin (s + 1) 10 = t + 1 → (∀ c, c ≠ 78 → c ≠ 82 → mx c = m c) → (∀ k, k ≠ 6 → mx 78 k = m 78 k) → (∀ k i, 0 ≤ k → k < t → 0 ≤ i → i < 829 → mx 82 (829 * k + i) = pushP P s G k i) → pushP P s G t = G → Ev (d + 2) M_Mo_keepsPast 0 0 48 [(2, 78), zJ] [] kd mx (zqV kd (fun m1_q => KP kd m m1_q G P s S u T n)) := by
    intro mx t hM_q h6 t0_q t9 hz hF hG hP hT_q
    refine T_Mo_keepsPast_48 ?_
    try simp only [hM_q.r0, hM_q.r3, h6]
    refine ⟨hM_q.o, hM_q.o, hM_q.o, _, c_Mo_moves hM_q.k79 hM_q.k82 (by omega) (by omega) (Or.inl (by decide)), ?_⟩
    rintro m3_q ⟨f3_q, a3, b3⟩
    rw [show m3_q 78 6 = t by rw [f3_q 78 (by decide)]; exact h6, iw_s (x := t + 1) (by omega) (by omega)]
    refine ⟨hM_q.o, hM_q.o, ?_⟩
    have hM3 : MS kd (zup m3_q 78 6 (t + 1)) := (hM_q.fr (f3_q 78 (by decide))).up (Or.inl rfl)
    have h78 : ∀ k, k ≠ 6 → (zup m3_q 78 6 (t + 1)) 78 k = m 78 k := fun k hk => by rw [zup_nj hk, f3_q 78 (by decide)]; exact hG k hk
    have hc_q : ∀ c, c ≠ 78 → c ≠ 82 → (zup m3_q 78 6 (t + 1)) c = m c := fun c e1_q e2_q => by rw [zup_off e1_q, f3_q c e2_q]; exact hF c e1_q e2_q
    refine ⟨?_, hc_q, h78⟩
    unfold MB
    rw [hc_q 79 (by decide) (by decide), hc_q 83 (by decide) (by decide), hc_q 84 (by decide) (by decide), hc_q 85 (by decide) (by decide), h78 8 (by decide), zup_self]
    refine ⟨hM3, h.2.1, ⟨hz.symm, fun k i k0_q k1_q i0_q i1_q => ?_⟩, h.2.2.2⟩
    rw [zup_off (by decide)]
    rcases (show k = t ∨ k < t by omega) with q | q
    · rw [q, a3 i i0_q i1_q, hT_q, hF 79 (by decide) (by decide), show 829 * 0 + i = i by omega]
      exact h.2.1 i i0_q i1_q
    · rw [b3 _ (Or.inl (by omega))]
      exact hP k i k0_q q i0_q i1_q
  have qL0 := zfor1 (10) (fun (i : Int) (mm : ZM) => Ev (d + 2) M_Mo_keepsPast 0 0 11 [(2, 78), (0, i)] [] kd mm (zqV kd (fun m1_q => KP kd m m1_q G P s S u T n))) (fun (i : Int) (mm : ZM) => (1 ≤ i ∧ s = 10) ∧ (∀ c, c ≠ 82 → mm c = m c) ∧ (∀ k q, 0 ≤ k → k < i - 1 → 0 ≤ q → q < 829 → mm 82 (829 * k + q) = P (k + 1) q) ∧ ∀ k q, i - 1 ≤ k → k < 10 → 0 ≤ q → q < 829 → mm 82 (829 * k + q) = P k q) (by
    intro i mm hb_q hI0 qKL0
    obtain ⟨⟨hi1, hs10⟩, hF, hX, hY⟩ := hI0
    have hM_q : MS kd mm := h.1.fr (hF 78 (by decide))
    have e1_q : iw (i - 1) = i - 1 := iw_s (by omega) (by omega)
    have h6 : mm 78 6 = 10 := by rw [hF 78 (by decide), h.2.2.1.1]; exact hs10
    refine T_Mo_keepsPast_11 ?_
    try simp only [hM_q.r3, e1_q, h6]
    refine ⟨fun qc_1 => ?_, fun qc_1 => ?_⟩
    · skip
      refine ⟨hM_q.o, hM_q.o, ?_⟩
      rw [iw_s (x := (10 : Int) - 1) (by omega) (by omega)]
      refine key _ 9 (hM_q.up (Or.inl rfl)) (by rw [zup_self]; rfl) (by decide) (by decide) (by rw [hs10]; rfl) (fun c e2_q e3_q => by rw [zup_off e2_q]; exact hF c e3_q) (fun k hk => by rw [zup_nj hk, hF 78 (by decide)]) (fun k q k0_q k1_q q0 q1_q => ?_) ?_
      · rw [zup_off (by decide), hX k q k0_q (by omega) q0 q1_q]
        unfold pushP
        rw [if_pos hs10, if_neg (by omega)]
      · unfold pushP
        rw [if_pos hs10, if_pos rfl]
    · skip
      refine ⟨hM_q.o, hM_q.o, ?_⟩
      refine ⟨_, c_Mo_moves hM_q.k82 hM_q.k82 (by omega) (by omega) (Or.inr (by omega)), ?_⟩
      rintro m3_q ⟨f3_q, a3, b3⟩
      rw [iw_s (x := i + 1) (by omega) (by omega)]
      refine qKL0 _ (by omega) ⟨⟨by omega, hs10⟩, fun c hc_q => by rw [f3_q c hc_q]; exact hF c hc_q, fun k q k0_q k1_q q0 q1_q => ?_, fun k q k0_q k1_q q0 q1_q => ?_⟩
      · rcases (show k = i - 1 ∨ k < i - 1 by omega) with e | e
        · rw [e, a3 q q0 q1_q, show i - 1 + 1 = i by omega]
          exact hY i q (by omega) (by omega) q0 q1_q
        · rw [b3 _ (Or.inl (by omega))]
          exact hX k q k0_q e q0 q1_q
      · rw [b3 _ (Or.inr (by omega))]
        exact hY k q (by omega) k1_q q0 q1_q)
  refine S_Mo_keepsPast ?_
  rw [h.2.2.1.1]
  refine ⟨h.1.o, fun qc_1 => ?_, fun qc_1 => ?_⟩
  · refine key m s h.1 h.2.2.1.1 hs.1 (by omega) (by unfold zmin; split <;> omega) (fun _ _ _ => rfl) (fun _ _ => rfl) (fun k q k0_q k1_q q0 q1_q => ?_) ?_
    · rw [h.2.2.1.2 k q k0_q k1_q q0 q1_q]
      unfold pushP
      rw [if_neg qc_1, if_neg (by omega)]
    · unfold pushP
      rw [if_neg qc_1, if_pos rfl]
  · have hs10 : s = 10 := Classical.not_not.1 qc_1
    exact qL0 1 m (by decide) ⟨⟨by decide, hs10⟩, fun _ _ => rfl, fun k q k0_q k1_q => absurd k1_q (by omega), fun k q k0_q k1_q q0 q1_q => h.2.2.1.2 k q (by omega) (by omega) q0 q1_q⟩
theorem c_Mo_becomes {d : Nat} {kd : ZK} {m : ZM} {G : GR} {P : Int → GR} {s : Int} {S : Int → GR} {u : Int} {T : Int → Int} {n : Int} (h : MB kd m G P s S u T n) (hs : 0 ≤ s ∧ s ≤ 10) {k v : Int} (hk : 0 ≤ k ∧ k < 829) : CtI (d + 3) M_Mo_becomes [(2, 78), (0, k), (0, v)] kd m (fun x m1_q => (G k ≠ v → x = G k ∧ MJ kd m m1_q (acted (G, P, s, S, u, T, n) (gup G k v))) ∧ (¬ G k ≠ v → x = -2 ∧ m = m1_q)) := by
  have e0_q := h.2.1 k hk.1 hk.2
  refine S_Mo_becomes ?_
  try simp only [h.1.r0, e0_q]
  refine ⟨h.1.o, ⟨829, h.1.k79, hk.1, hk.2⟩, fun qc_1 => ?_, fun qc_1 => ?_⟩
  · refine ⟨h.1.o, _, c_Mo_keepsPast h hs, ?_⟩
    rintro m3_q h3
    try simp only [h3.1.1.r0]
    refine ⟨h.1.o, ⟨829, h.1.k79, hk.1, hk.2⟩, fun _ => ⟨by trivial, ?_, fun c hc_q => ?_⟩, fun z => absurd qc_1 z⟩
    · refine h3.1.row (fun c hc_q => zup_off hc_q) (fun i i0_q i1_q => ?_)
      show (zup m3_q 79 k v) 79 i = gup G k v i
      rw [zup_at]
      rcases Classical.em (i = k) with q | q
      · rw [q, gup_at, gup_at]
      · rw [gup_off q, gup_off q]; exact h3.1.2.1 i i0_q i1_q
    · rw [zup_off (by omega), h3.2.1 c (by omega) (by omega)]
  · exact ⟨fun z => absurd z qc_1, fun _ => ⟨by trivial, by trivial⟩⟩
theorem c_Mo_weigh {d : Nat} {kd : ZK} {m : ZM} {G : GR} {P : Int → GR} {s : Int} {S : Int → GR} {u : Int} {T : Int → Int} {n : Int} (hB_q : MB kd m G P s S u T n) (hS_q : SO G s u T n) {x y k : Int} : CtI (d + 4) M_Mo_weigh [(2, 78), (0, x), (0, y), (0, k)] kd m (fun zz m1_q => zz = (fWeigh (G, P, s, S, u, T, n) x y k).1 ∧ MJ kd m m1_q (fWeigh (G, P, s, S, u, T, n) x y k).2) := by
  have h : MG kd m G := hB_q.g hS_q.1
  have r0 := h.s.r0
  have r1_q := h.s.r1
  have r2 := h.s.r2
  have r3 := h.s.r3
  have r4 := h.s.r4
  have r5_q := h.s.r5
  have r7 := h.s.r7
  have r12 := h.s.r12
  have r13 := h.s.r13
  have r15 := h.s.r15
  have r17 := h.s.r17
  have r18 := h.s.r18
  have r19 := h.s.r19
  have r20 := h.s.r20
  have r21 := h.s.r21
  have r22 := h.s.r22
  have hok := h.ok.1
  have hq0 : nQ G 0 = G 0 := rfl
  have hq1 : nQ G 1 = G 1 := rfl
  have ha0 : nA G 0 = G 2 := rfl
  have ha1 : nA G 1 = G 3 := rfl
  refine S_Mo_weigh ?_
  try simp only [r0, r1_q, r2, r3, r4, r5_q, r7, r12, r13, r15, r17, r18, r19, r20, r21, r22]
  refine ⟨h.s.o, _, c_Mo_areTwo h, ?_⟩
  rintro _ _ ⟨rfl, rfl⟩
  try simp only [r0, r1_q, r2, r3, r4, r5_q, r7, r12, r13, r15, r17, r18, r19, r20, r21, r22]
  refine ⟨fun qc_1 => ?_, fun qc_1 => ?_⟩
  · replace qc_1 := zb_eq0.1 qc_1
    simp only [fWeigh]
    rw [zif_f qc_1]
    exact ⟨rfl, MJ.rf hB_q⟩
  · replace qc_1 := zb_ne0.1 qc_1
    refine ⟨_, c_Mo_in, ?_⟩
    rintro _ _ ⟨rfl, rfl⟩
    try simp only [r0, r1_q, r2, r3, r4, r5_q, r7, r12, r13, r15, r17, r18, r19, r20, r21, r22]
    refine ⟨fun qc_2 => ?_, fun qc_2 => ?_⟩
    · replace qc_2 := zb_eq0.1 qc_2
      simp only [fWeigh]
      rw [zif_t qc_1]
      rcases (show k < 0 ∨ (¬ k < 0 ∧ ¬ k ≤ 9) by omega) with e | e
      · rw [zif_t e]; exact ⟨rfl, MJ.rf hB_q⟩
      · rw [zif_f e.1, zif_f e.2]; exact ⟨rfl, MJ.rf hB_q⟩
    · replace qc_2 := zb_ne0.1 qc_2
      refine ⟨_, c_Mo_twoOf (by omega) (by omega), ?_⟩
      rintro _ _ ⟨rfl, rfl⟩
      try simp only [r0, r1_q, r2, r3, r4, r5_q, r7, r12, r13, r15, r17, r18, r19, r20, r21, r22]
      rw [iw_s (x := 4 + (5 * x + y)) (by omega) (by omega)]
      refine ⟨h.s.o, _, c_Mo_becomes hB_q hS_q.2.1 (by omega), ?_⟩
      rintro x11 m12_q b12
      have hix : 4 + zC 0 x y = 4 + (5 * x + y) := by rw [zC_v, if_pos rfl]
      have hval : G (4 + (5 * x + y)) = gW G x y := (gW_i ⟨by omega, by omega, by omega, by omega⟩).symm
      simp only [fWeigh]
      rw [zif_t qc_1, zif_f (show ¬ k < 0 by omega), zif_t qc_2.2]
      rcases Classical.em (G (4 + (5 * x + y)) ≠ k) with e | e
      · have z := b12.1 e
        rw [zif_t (by rw [← hval]; exact e), ← hval, hix]
        exact z
      · have z := b12.2 e
        rw [zif_f (by rw [← hval]; exact e)]
        obtain ⟨z1, rfl⟩ := z
        exact ⟨z1, MJ.rf hB_q⟩
theorem c_Mo_box {d : Nat} {kd : ZK} {m : ZM} {G : GR} {P : Int → GR} {s : Int} {S : Int → GR} {u : Int} {T : Int → Int} {n : Int} (hB_q : MB kd m G P s S u T n) (hS_q : SO G s u T n) {x y a b k : Int} : CtI (d + 5) M_Mo_box [(2, 78), (0, x), (0, y), (0, a), (0, b), (0, k)] kd m (fun zz m1_q => zz = (fBox (G, P, s, S, u, T, n) x y a b k).1 ∧ MJ kd m m1_q (fBox (G, P, s, S, u, T, n) x y a b k).2) := by
  have h : MG kd m G := hB_q.g hS_q.1
  have r0 := h.s.r0
  have r1_q := h.s.r1
  have r2 := h.s.r2
  have r3 := h.s.r3
  have r4 := h.s.r4
  have r5_q := h.s.r5
  have r7 := h.s.r7
  have r12 := h.s.r12
  have r13 := h.s.r13
  have r15 := h.s.r15
  have r17 := h.s.r17
  have r18 := h.s.r18
  have r19 := h.s.r19
  have r20 := h.s.r20
  have r21 := h.s.r21
  have r22 := h.s.r22
  have hok := h.ok.1
  have hq0 : nQ G 0 = G 0 := rfl
  have hq1 : nQ G 1 = G 1 := rfl
  have ha0 : nA G 0 = G 2 := rfl
  have ha1 : nA G 1 = G 3 := rfl
  refine S_Mo_box ?_
  try simp only [r0, r1_q, r2, r3, r4, r5_q, r7, r12, r13, r15, r17, r18, r19, r20, r21, r22]
  refine ⟨h.s.o, _, c_Mo_areFour h, ?_⟩
  rintro _ _ ⟨rfl, rfl⟩
  try simp only [r0, r1_q, r2, r3, r4, r5_q, r7, r12, r13, r15, r17, r18, r19, r20, r21, r22]
  refine ⟨fun qc_1 => ?_, fun qc_1 => ?_⟩
  · replace qc_1 := zb_eq0.1 qc_1
    simp only [fBox]
    rw [zif_f qc_1]
    exact ⟨rfl, MJ.rf hB_q⟩
  · replace qc_1 := zb_ne0.1 qc_1
    refine ⟨_, c_Mo_in, ?_⟩
    rintro _ _ ⟨rfl, rfl⟩
    try simp only [r0, r1_q, r2, r3, r4, r5_q, r7, r12, r13, r15, r17, r18, r19, r20, r21, r22]
    refine ⟨fun qc_2 => ?_, fun qc_2 => ?_⟩
    · replace qc_2 := zb_eq0.1 qc_2
      simp only [fBox]
      rw [zif_t qc_1]
      rcases (show k < 0 ∨ (¬ k < 0 ∧ ¬ k ≤ 12) by omega) with e | e
      · rw [zif_t e]; exact ⟨rfl, MJ.rf hB_q⟩
      · rw [zif_f e.1, zif_f e.2]; exact ⟨rfl, MJ.rf hB_q⟩
    · replace qc_2 := zb_ne0.1 qc_2
      refine ⟨_, c_Mo_fourOf (by omega) (by omega) (by omega) (by omega), ?_⟩
      rintro _ _ ⟨rfl, rfl⟩
      try simp only [r0, r1_q, r2, r3, r4, r5_q, r7, r12, r13, r15, r17, r18, r19, r20, r21, r22]
      rw [iw_s (x := 429 + (4 * (4 * (5 * x + y) + a) + b)) (by omega) (by omega)]
      refine ⟨h.s.o, _, c_Mo_becomes hB_q hS_q.2.1 (by omega), ?_⟩
      rintro x11 m12_q b12
      have hix : 429 + zS 0 x y a b = 429 + (4 * (4 * (5 * x + y) + a) + b) := by rw [zS_v, if_pos rfl]
      have hval : G (429 + (4 * (4 * (5 * x + y) + a) + b)) = gB G x y a b := (gB_i ⟨⟨by omega, by omega, by omega, by omega⟩, by omega, by omega, by omega, by omega⟩).symm
      simp only [fBox]
      rw [zif_t qc_1, zif_f (show ¬ k < 0 by omega), zif_t qc_2.2]
      rcases Classical.em (G (429 + (4 * (4 * (5 * x + y) + a) + b)) ≠ k) with e | e
      · have z := b12.1 e
        rw [zif_t (by rw [← hval]; exact e), ← hval, hix]
        exact z
      · have z := b12.2 e
        rw [zif_f (by rw [← hval]; exact e)]
        obtain ⟨z1, rfl⟩ := z
        exact ⟨z1, MJ.rf hB_q⟩
