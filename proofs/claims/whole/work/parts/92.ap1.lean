/-! THE CLASS: its methods, first: what they answer by a formula -/
theorem GOK.tA {G : GR} (ho : GOK G) (ht : 0 < G 0) (p : Int) : 2 ≤ nA G p ∧ nA G p ≤ 4 := by
  have h := ho.2.1 ht
  have h1 := ho.1
  unfold nA; split <;> omega
theorem GOK.tQ {G : GR} (ho : GOK G) (ht : 0 < G 0) (p : Int) : 1 ≤ nQ G p ∧ nQ G p ≤ 5 := by
  have h := ho.2.1 ht
  have h1 := ho.1
  unfold nQ; split <;> omega
theorem isQ.told {G : GR} {x y : Int} (h : isQ G 0 x ∧ isQ G 1 y) : 0 < G 0 := Int.lt_of_le_of_lt h.1.2.1 h.1.2.2
theorem isQ.tp {G : GR} (ho : GOK G) {p q : Int} (h : isQ G p q) (k : 0 < nQ G p) : True := trivial
theorem c_Ap_mostOf {d : Nat} {kd : ZK} {m : ZM} {g : Int} {K : GR} (ho : zobj kd 0 7) (e2 : m 0 2 = 45) (ht : TB kd m) (hg : CG kd m g K) (hk : GOK K) (h0 : 0 < K 0) (hz : 55 < g) : CtI (d + 20) M_Ap_mostOf [(2, 0), (2, g)] kd m (fun x m1 => isMx K x ∧ FT kd m m1) := by
  refine S_Ap_mostOf ?_
  simp only [e2]
  refine ⟨ho, ht.o, _, c_Table_loadPlain ht hg hk h0 hz (Or.inl rfl), ?_⟩
  rintro m3 ⟨t3, f3⟩
  have e3 : m3 0 2 = 45 := by rw [f3 0 (by decide) (by decide)]; exact e2
  simp only [e3]
  refine ⟨ho, ht.o, _, c_Table_mostAbove t3 (by decide), ?_⟩
  rintro x m6 ⟨x5, k6, f6⟩
  exact ⟨isMA_0 hk h0 x5, fun c hc => by rw [f6 c (by omega) (by omega) (by omega) (by omega), f3 c (by omega) (by omega)], ⟨_, _, _, _, _, t3.1.frame2 k6⟩⟩
theorem c_Ap_mostAsked {d : Nat} {kd : ZK} {m : ZM} {G : GR} {P : Int → GR} {s : Int} {S : Int → GR} {u : Int} {T : Int → Int} {n : Int} (hA : AI kd m G P s S u T n) (hto : 0 < G 0) {S0 : Int} : CtI (d + 20) M_Ap_mostAsked [(2, 0), (0, S0)] kd m (fun x m1 => tkM G S0 x ∧ FT kd m m1) := by
  refine S_Ap_mostAsked ?_
  simp only [hA.e2]
  refine ⟨hA.o, hA.o, hA.t5, _, c_Table_loadSome hA.tb hA.g hA.ok hto (by have := hA.z; omega) (Or.inl rfl), ?_⟩
  rintro m3 ⟨t3, f3⟩
  have e3 : m3 0 2 = 45 := by rw [f3 0 (by decide) (by decide)]; exact hA.e2
  simp only [e3]
  refine ⟨hA.o, hA.t5, _, c_Table_mostAbove t3 (by decide), ?_⟩
  rintro x m6 ⟨x5, k6, f6⟩
  exact ⟨x5, fun c hc => by rw [f6 c (by omega) (by omega) (by omega) (by omega), f3 c (by omega) (by omega)], ⟨_, _, _, _, _, t3.1.frame2 k6⟩⟩
theorem sW_in {G : GR} (ho : GOK G) : 0 ≤ sW G ∧ sW G ≤ 225 := by
  have h0 := ho.1
  have h := zsum_le (C := 45) (f := fun x => zsum (G 1).toNat (fun y => gW G x y)) (by decide) (fun x => by
    have := zsum_le (C := 9) (f := fun y => gW G x y) (by decide) (fun y => ho.gW x y) (G 1).toNat
    omega) (G 0).toNat
  unfold sW
  omega
theorem c_Ap_mostBias {d : Nat} {kd : ZK} {m : ZM} {G : GR} {P : Int → GR} {s : Int} {S : Int → GR} {u : Int} {T : Int → Int} {n : Int} (hA : AI kd m G P s S u T n) (hto : 0 < G 0) : CtI (d + 21) M_Ap_mostBias [(2, 0)] kd m (fun x m1 => isBi G x ∧ AR kd m m1 G P s S u T n) := by
  refine S_Ap_mostBias ?_
  refine ⟨hA.o, hA.o, _, c_Ap_mostOf hA.o hA.e2 hA.tb hA.g hA.ok hto (by have := hA.z; omega), ?_⟩
  rintro x m3 ⟨x3, f3⟩
  have a3 := (AR.rf hA).ft f3
  refine ⟨hA.o, a3.1.g.1.1, _, c_Game_weightTogether a3.1.g hA.ok, ?_⟩
  rintro _ _ ⟨rfl, rfl⟩
  have h1 := isMx_in hA.ok x3
  have h2 := sW_in hA.ok
  rw [iw_s (x := 2 * x) (by omega) (by omega), iw_s (by omega) (by omega)]
  exact ⟨⟨x, x3, rfl⟩, a3⟩
theorem c_Ap_wins {d : Nat} {kd : ZK} {m : ZM} {G : GR} {P : Int → GR} {s : Int} {S : Int → GR} {u : Int} {T : Int → Int} {n : Int} (hA : AI kd m G P s S u T n) {x y a b : Int} : CtI (d + 5) M_Ap_wins [(2, 0), (0, x), (0, y), (0, a), (0, b)] kd m (fun zz m1 => (zz = aWins G x y a b) ∧ AR kd m m1 G P s S u T n) := by
  have h0 := AR.rf hA
  have hok := hA.ok.1
  have hq0 : nQ G 0 = G 0 := rfl
  have hq1 : nQ G 1 = G 1 := rfl
  have ha0 : nA G 0 = G 2 := rfl
  have ha1 : nA G 1 = G 3 := rfl
  refine S_Ap_wins ?_
  try simp only [h0.1.e0, h0.1.e1, h0.1.e2, h0.1.e3, h0.1.e4, h0.1.e5, h0.1.e6]
  refine ⟨hA.o, ?_⟩
  refine ⟨h0.1.g.1.1, _, c_Game_hasSpot h0.1.g, ?_⟩
  rintro _ _ ⟨rfl, rfl⟩
  try simp only [h0.1.e0, h0.1.e1, h0.1.e2, h0.1.e3, h0.1.e4, h0.1.e5, h0.1.e6]
  refine ⟨fun c1 => ?_, fun c1 => ?_⟩
  · replace c1 := zb_eq0.1 c1
    refine ⟨?_, h0⟩
    rw [aWins, zite_f c1]
  · replace c1 := zb_ne0.1 c1
    refine ⟨hA.o, h0.1.g.1.1, ?_⟩
    refine ⟨_, c_Ap_spotOf (by omega) (by omega) (by omega) (by omega), ?_⟩
    rintro _ _ ⟨rfl, rfl⟩
    try simp only [h0.1.e0, h0.1.e1, h0.1.e2, h0.1.e3, h0.1.e4, h0.1.e5, h0.1.e6]
    refine ⟨h0.1.g.1.inV (zS_in (by omega) (by omega) (by omega) (by omega)), ?_⟩
    refine ⟨?_, h0⟩
    rw [aWins, zite_t c1]
    exact hA.g.V0 (by omega) (by omega) (by omega) (by omega)
theorem c_Ap_weight {d : Nat} {kd : ZK} {m : ZM} {G : GR} {P : Int → GR} {s : Int} {S : Int → GR} {u : Int} {T : Int → Int} {n : Int} (hA : AI kd m G P s S u T n) {x y : Int} : CtI (d + 4) M_Ap_weight [(2, 0), (0, x), (0, y)] kd m (fun zz m1 => (zz = aWeight G x y) ∧ AR kd m m1 G P s S u T n) := by
  have h0 := AR.rf hA
  have hok := hA.ok.1
  have hq0 : nQ G 0 = G 0 := rfl
  have hq1 : nQ G 1 = G 1 := rfl
  have ha0 : nA G 0 = G 2 := rfl
  have ha1 : nA G 1 = G 3 := rfl
  refine S_Ap_weight ?_
  try simp only [h0.1.e0, h0.1.e1, h0.1.e2, h0.1.e3, h0.1.e4, h0.1.e5, h0.1.e6]
  refine ⟨hA.o, ?_⟩
  refine ⟨h0.1.g.1.1, _, c_Game_hasCell h0.1.g, ?_⟩
  rintro _ _ ⟨rfl, rfl⟩
  try simp only [h0.1.e0, h0.1.e1, h0.1.e2, h0.1.e3, h0.1.e4, h0.1.e5, h0.1.e6]
  refine ⟨fun c1 => ?_, fun c1 => ?_⟩
  · replace c1 := zb_eq0.1 c1
    refine ⟨?_, h0⟩
    rw [aWeight, zite_f c1]
  · replace c1 := zb_ne0.1 c1
    refine ⟨hA.o, h0.1.g.1.1, ?_⟩
    refine ⟨_, c_Ap_cellOf (by omega) (by omega), ?_⟩
    rintro _ _ ⟨rfl, rfl⟩
    try simp only [h0.1.e0, h0.1.e1, h0.1.e2, h0.1.e3, h0.1.e4, h0.1.e5, h0.1.e6]
    refine ⟨h0.1.g.1.inW (zC_in (by omega) (by omega)), ?_⟩
    refine ⟨?_, h0⟩
    rw [aWeight, zite_t c1]
    exact hA.g.W0 (by omega) (by omega)
theorem c_Ap_play {d : Nat} {kd : ZK} {m : ZM} {G : GR} {P : Int → GR} {s : Int} {S : Int → GR} {u : Int} {T : Int → Int} {n : Int} (hA : AI kd m G P s S u T n) {x y : Int} (hz1 : zin32 x) (hz2 : zin32 y) : CtI (d + 6) M_Ap_play [(2, 0), (0, x), (0, y)] kd m (fun zz m1 => (zz = aPlay G x y) ∧ AR kd m m1 G P s S u T n) := by
  have h0 := AR.rf hA
  have hok := hA.ok.1
  have hq0 : nQ G 0 = G 0 := rfl
  have hq1 : nQ G 1 = G 1 := rfl
  have ha0 : nA G 0 = G 2 := rfl
  have ha1 : nA G 1 = G 3 := rfl
  refine S_Ap_play ?_
  try simp only [h0.1.e0, h0.1.e1, h0.1.e2, h0.1.e3, h0.1.e4, h0.1.e5, h0.1.e6]
  refine ⟨hA.o, hA.o, ?_⟩
  refine ⟨h0.1.du.1.1, _, c_Duo_takeBoth h0.1.du h0.1.g hA.ok (by have := h0.1.z; omega) hz1 hz2, ?_⟩
  rintro x2 m3 ⟨i3, f3, r3⟩
  have a3 := h0.wk (fun c hc => f3 c (by omega) (by omega))
  subst i3
  try simp only [a3.1.e0, a3.1.e1, a3.1.e2, a3.1.e3, a3.1.e4, a3.1.e5, a3.1.e6]
  refine ⟨fun c1 => ?_, fun c1 => ?_⟩
  · replace c1 := zb_eq0.1 c1
    refine ⟨?_, a3⟩
    rw [aPlay, zite_f c1]
  · replace c1 := zb_ne0.1 c1
    have hrr := r3 c1
    have hr1 : isRw G 0 (m3 53) := c1.1.rw (fun q q1 q2 => hrr.1 q q1 q2)
    have hr2 : isRw G 1 (m3 54) := c1.2.rw (fun q q1 q2 => hrr.2 q q1 q2)
    refine ⟨hA.o, hA.o, ?_⟩
    refine ⟨a3.1.du.1.1, _, c_Duo_worthBoth a3.1.du a3.1.g hA.ok hr1 hr2, ?_⟩
    rintro _ _ ⟨rfl, rfl⟩
    try simp only [a3.1.e0, a3.1.e1, a3.1.e2, a3.1.e3, a3.1.e4, a3.1.e5, a3.1.e6]
    refine ⟨?_, a3⟩
    rw [aPlay, zite_t c1]
    exact wBoth_congr (fun q q1 q2 => hrr.1 q q1 q2) (fun q q1 q2 => hrr.2 q q1 q2)
theorem c_Ap_hangs {d : Nat} {kd : ZK} {m : ZM} {G : GR} {P : Int → GR} {s : Int} {S : Int → GR} {u : Int} {T : Int → Int} {n : Int} (hA : AI kd m G P s S u T n) {x y : Int} (hz1 : zin32 x) : CtI (d + 6) M_Ap_hangs [(2, 0), (0, x), (0, y)] kd m (fun zz m1 => (zz = aHangs G x y) ∧ AR kd m m1 G P s S u T n) := by
  have h0 := AR.rf hA
  have hok := hA.ok.1
  have hq0 : nQ G 0 = G 0 := rfl
  have hq1 : nQ G 1 = G 1 := rfl
  have ha0 : nA G 0 = G 2 := rfl
  have ha1 : nA G 1 = G 3 := rfl
  refine S_Ap_hangs ?_
  try simp only [h0.1.e0, h0.1.e1, h0.1.e2, h0.1.e3, h0.1.e4, h0.1.e5, h0.1.e6]
  refine ⟨hA.o, hA.o, ?_⟩
  refine ⟨h0.1.du.1.1, _, c_Duo_take h0.1.du h0.1.g hA.ok (by have := h0.1.z; omega) (Or.inl rfl) hz1, ?_⟩
  rintro x2 m3 ⟨i3, f3, r3⟩
  have a3 := h0.wk (fun c hc => f3 c (by have := rwD_in (0); omega))
  subst i3
  try simp only [a3.1.e0, a3.1.e1, a3.1.e2, a3.1.e3, a3.1.e4, a3.1.e5, a3.1.e6]
  refine ⟨fun c1 => ?_, fun c1 => ?_⟩
  · replace c1 := zb_eq0.1 c1
    refine ⟨?_, a3⟩
    rw [aHangs, zite_f c1]
  · replace c1 := zb_ne0.1 c1
    have hto : 0 < G 0 := c1.1.1
    have hga : 1 ≤ G 3 := by have := hA.ok.2.1 hto; omega
    have hr1 : isRw G 0 (m3 53) := c1.rw (fun q q1 q2 => r3 c1 q q1 q2)
    refine ⟨hA.o, ?_⟩
    refine ⟨a3.1.g.1.1, _, c_Game_hasQuestion a3.1.g, ?_⟩
    rintro _ _ ⟨rfl, rfl⟩
    try simp only [a3.1.e0, a3.1.e1, a3.1.e2, a3.1.e3, a3.1.e4, a3.1.e5, a3.1.e6]
    refine ⟨fun c2 => ?_, fun c2 => ?_⟩
    · replace c2 := zb_ne0.1 c2
      refine ⟨hA.o, hA.o, ?_⟩
      refine ⟨a3.1.du.1.1, _, c_Duo_spanAt a3.1.du a3.1.g hA.ok hga (by omega) hr1, ?_⟩
      rintro _ _ ⟨rfl, rfl⟩
      try simp only [a3.1.e0, a3.1.e1, a3.1.e2, a3.1.e3, a3.1.e4, a3.1.e5, a3.1.e6]
      refine ⟨?_, a3⟩
      rw [aHangs, zite_t c1, zite_t c2]
      have hc : ∀ b, wAt G 1 y b (m3 53) = wAt G 1 y b (drow G 0 x) := fun b => wAt_congr (fun q q1 q2 => r3 c1 q q1 q2)
      unfold gSpan
      rw [zhi_congr _ (fun j _ _ => hc j), zlo_congr _ (fun j _ _ => hc j)]
    · replace c2 := zb_eq0.1 (Classical.not_not.1 c2)
      refine ⟨?_, a3⟩
      rw [aHangs, zite_t c1, zite_f c2]
theorem c_Ap_reply {d : Nat} {kd : ZK} {m : ZM} {G : GR} {P : Int → GR} {s : Int} {S : Int → GR} {u : Int} {T : Int → Int} {n : Int} (hA : AI kd m G P s S u T n) {p x : Int} (hz1 : zin32 x) : CtI (d + 6) M_Ap_reply [(2, 0), (0, p), (0, x)] kd m (fun zz m1 => (zz = aReply G p x) ∧ AR kd m m1 G P s S u T n) := by
  have h0 := AR.rf hA
  have hok := hA.ok.1
  have hq0 : nQ G 0 = G 0 := rfl
  have hq1 : nQ G 1 = G 1 := rfl
  have ha0 : nA G 0 = G 2 := rfl
  have ha1 : nA G 1 = G 3 := rfl
  refine S_Ap_reply ?_
  try simp only [h0.1.e0, h0.1.e1, h0.1.e2, h0.1.e3, h0.1.e4, h0.1.e5, h0.1.e6]
  refine ⟨_, c_Ap_isPlayer, ?_⟩
  rintro _ _ ⟨rfl, rfl⟩
  try simp only [h0.1.e0, h0.1.e1, h0.1.e2, h0.1.e3, h0.1.e4, h0.1.e5, h0.1.e6]
  refine ⟨fun c1 => ?_, fun c1 => ?_⟩
  · replace c1 := zb_eq0.1 c1
    refine ⟨?_, h0⟩
    rw [aReply, zite_f c1]
  · replace c1 := zb_ne0.1 c1
    have hpo : (1 - p = 0 ∨ 1 - p = 1) := by omega
    rw [iw_s (x := 1 - p) (by omega) (by omega)]
    refine ⟨hA.o, hA.o, ?_⟩
    refine ⟨h0.1.du.1.1, _, c_Duo_take h0.1.du h0.1.g hA.ok (by have := h0.1.z; omega) hpo hz1, ?_⟩
    rintro x5 m6 ⟨i6, f6, r6⟩
    have a6 := h0.wk (fun c hc => f6 c (by have := rwD_in (1 - p); omega))
    subst i6
    try simp only [a6.1.e0, a6.1.e1, a6.1.e2, a6.1.e3, a6.1.e4, a6.1.e5, a6.1.e6]
    refine ⟨fun c2 => ?_, fun c2 => ?_⟩
    · replace c2 := zb_ne0.1 c2
      have hto : 0 < G 0 := c2.1.1
      have hga : 1 ≤ nA G p := by have := hA.ok.tA hto p; omega
      have hr1 : isRw G (1 - p) (m6 (rwD (1 - p))) := c2.rw (fun q q1 q2 => r6 c2 q q1 q2)
      have hc : ∀ q, bA G p (m6 (rwD (1 - p))) q = bA G p (drow G (1 - p) x) q := fun q => bA_congr (fun q q1 q2 => r6 c2 q q1 q2) q
      have hr5 : ∀ {mm : ZM}, (∀ q, 0 ≤ q → q < nQ G p → mm 55 q = bA G p (m6 (rwD (1 - p))) q) → isRw G p (mm 55) := fun e q q1 q2 => by rw [e q q1 q2]; exact bA_rw hga q q1 q2
      refine ⟨hA.o, hA.o, ?_⟩
      refine ⟨a6.1.du.1.1, _, c_Duo_answerBest a6.1.du a6.1.g hA.ok (by have := a6.1.z; omega) c1 hga hr1, ?_⟩
      rintro x8 m9 ⟨i9, f9, q9⟩
      have a9 := a6.wk (fun c hc => f9 c (by omega))
      try simp only [a9.1.e0, a9.1.e1, a9.1.e2, a9.1.e3, a9.1.e4, a9.1.e5, a9.1.e6]
      refine ⟨hA.o, hA.o, ?_⟩
      refine ⟨a9.1.du.1.1, _, c_Duo_bestReply a9.1.du a9.1.g hA.ok (hr5 q9), ?_⟩
      rintro _ _ ⟨rfl, rfl⟩
      try simp only [a9.1.e0, a9.1.e1, a9.1.e2, a9.1.e3, a9.1.e4, a9.1.e5, a9.1.e6]
      refine ⟨?_, a9⟩
      rw [aReply, zite_t c1, zite_t c2]
      exact zhn_congr _ (fun q q1 q2 => by rw [q9 q q1 (by omega), hc q])
    · replace c2 := zb_eq0.1 (Classical.not_not.1 c2)
      refine ⟨?_, a6⟩
      rw [aReply, zite_t c1, zite_f c2]
theorem c_Ap_lesser {d : Nat} {kd : ZK} {m : ZM} {G : GR} {P : Int → GR} {s : Int} {S : Int → GR} {u : Int} {T : Int → Int} {n : Int} (hA : AI kd m G P s S u T n) {p q a b : Int} : CtI (d + 5) M_Ap_lesser [(2, 0), (0, p), (0, q), (0, a), (0, b)] kd m (fun zz m1 => (zz = aLesser G p q a b) ∧ AR kd m m1 G P s S u T n) := by
  have h0 := AR.rf hA
  have hok := hA.ok.1
  have hq0 : nQ G 0 = G 0 := rfl
  have hq1 : nQ G 1 = G 1 := rfl
  have ha0 : nA G 0 = G 2 := rfl
  have ha1 : nA G 1 = G 3 := rfl
  refine S_Ap_lesser ?_
  try simp only [h0.1.e0, h0.1.e1, h0.1.e2, h0.1.e3, h0.1.e4, h0.1.e5, h0.1.e6]
  refine ⟨hA.o, ?_⟩
  refine ⟨h0.1.g.1.1, _, c_Game_hasTwoAnswers h0.1.g, ?_⟩
  rintro _ _ ⟨rfl, rfl⟩
  try simp only [h0.1.e0, h0.1.e1, h0.1.e2, h0.1.e3, h0.1.e4, h0.1.e5, h0.1.e6]
  refine ⟨fun c1 => ?_, fun c1 => ?_⟩
  · replace c1 := zb_ne0.1 c1
    refine ⟨hA.o, ?_⟩
    refine ⟨h0.1.g.1.1, _, c_Game_isLesser h0.1.g hA.ok (by omega) (by omega) (by omega) (by omega), ?_⟩
    rintro _ _ ⟨rfl, rfl⟩
    try simp only [h0.1.e0, h0.1.e1, h0.1.e2, h0.1.e3, h0.1.e4, h0.1.e5, h0.1.e6]
    refine ⟨fun c2 => ?_, fun c2 => ?_⟩
    · replace c2 := zb_eq0.1 c2
      refine ⟨?_, h0⟩
      rw [aLesser, zite_t c1, zite_f c2]
    · replace c2 := zb_ne0.1 c2
      refine ⟨?_, h0⟩
      rw [aLesser, zite_t c1, zite_t c2]
  · replace c1 := zb_eq0.1 (Classical.not_not.1 c1)
    refine ⟨?_, h0⟩
    rw [aLesser, zite_f c1]
theorem c_Ap_same {d : Nat} {kd : ZK} {m : ZM} {G : GR} {P : Int → GR} {s : Int} {S : Int → GR} {u : Int} {T : Int → Int} {n : Int} (hA : AI kd m G P s S u T n) {p x y : Int} : CtI (d + 5) M_Ap_same [(2, 0), (0, p), (0, x), (0, y)] kd m (fun zz m1 => (zz = aSame G p x y) ∧ AR kd m m1 G P s S u T n) := by
  have h0 := AR.rf hA
  have hok := hA.ok.1
  have hq0 : nQ G 0 = G 0 := rfl
  have hq1 : nQ G 1 = G 1 := rfl
  have ha0 : nA G 0 = G 2 := rfl
  have ha1 : nA G 1 = G 3 := rfl
  refine S_Ap_same ?_
  try simp only [h0.1.e0, h0.1.e1, h0.1.e2, h0.1.e3, h0.1.e4, h0.1.e5, h0.1.e6]
  refine ⟨hA.o, ?_⟩
  refine ⟨h0.1.g.1.1, _, c_Game_hasQuestion h0.1.g, ?_⟩
  rintro _ _ ⟨rfl, rfl⟩
  try simp only [h0.1.e0, h0.1.e1, h0.1.e2, h0.1.e3, h0.1.e4, h0.1.e5, h0.1.e6]
  refine ⟨fun c1 => ?_, fun c1 => ?_⟩
  · replace c1 := zb_eq0.1 c1
    refine ⟨?_, h0⟩
    rw [aSame, zite_f c1]
  · replace c1 := zb_ne0.1 c1
    refine ⟨hA.o, ?_⟩
    refine ⟨h0.1.g.1.1, _, c_Game_hasQuestion h0.1.g, ?_⟩
    rintro _ _ ⟨rfl, rfl⟩
    try simp only [h0.1.e0, h0.1.e1, h0.1.e2, h0.1.e3, h0.1.e4, h0.1.e5, h0.1.e6]
    refine ⟨fun c2 => ?_, fun c2 => ?_⟩
    · replace c2 := zb_eq0.1 c2
      refine ⟨?_, h0⟩
      rw [aSame, zite_t c1, zite_f c2]
    · replace c2 := zb_ne0.1 c2
      refine ⟨fun c3 => ?_, fun c3 => ?_⟩
      · skip
        refine ⟨hA.o, ?_⟩
        refine ⟨h0.1.g.1.1, _, c_Game_areSame h0.1.g hA.ok (by omega) (by omega) (by omega), ?_⟩
        rintro _ _ ⟨rfl, rfl⟩
        try simp only [h0.1.e0, h0.1.e1, h0.1.e2, h0.1.e3, h0.1.e4, h0.1.e5, h0.1.e6]
        refine ⟨fun c4 => ?_, fun c4 => ?_⟩
        · replace c4 := zb_eq0.1 c4
          refine ⟨?_, h0⟩
          rw [aSame, zite_t c1, zite_t c2, zite_t c3, zite_f c4]
        · replace c4 := zb_ne0.1 c4
          refine ⟨?_, h0⟩
          rw [aSame, zite_t c1, zite_t c2, zite_t c3, zite_t c4]
      · skip
        refine ⟨?_, h0⟩
        rw [aSame, zite_t c1, zite_t c2, zite_f c3]
theorem c_Ap_sign {d : Nat} {kd : ZK} {m : ZM} {G : GR} {P : Int → GR} {s : Int} {S : Int → GR} {u : Int} {T : Int → Int} {n : Int} (hA : AI kd m G P s S u T n) {x y : Int} : CtI (d + 4) M_Ap_sign [(2, 0), (0, x), (0, y)] kd m (fun zz m1 => (zz = aSign G x y) ∧ AR kd m m1 G P s S u T n) := by
  have h0 := AR.rf hA
  have hok := hA.ok.1
  have hq0 : nQ G 0 = G 0 := rfl
  have hq1 : nQ G 1 = G 1 := rfl
  have ha0 : nA G 0 = G 2 := rfl
  have ha1 : nA G 1 = G 3 := rfl
  refine S_Ap_sign ?_
  try simp only [h0.1.e0, h0.1.e1, h0.1.e2, h0.1.e3, h0.1.e4, h0.1.e5, h0.1.e6]
  refine ⟨hA.o, ?_⟩
  refine ⟨h0.1.g.1.1, _, c_Game_hasCell h0.1.g, ?_⟩
  rintro _ _ ⟨rfl, rfl⟩
  try simp only [h0.1.e0, h0.1.e1, h0.1.e2, h0.1.e3, h0.1.e4, h0.1.e5, h0.1.e6]
  refine ⟨fun c1 => ?_, fun c1 => ?_⟩
  · replace c1 := zb_eq0.1 c1
    refine ⟨?_, h0⟩
    rw [aSign, zite_f c1]
  · replace c1 := zb_ne0.1 c1
    refine ⟨hA.o, ?_⟩
    refine ⟨h0.1.g.1.1, _, c_Game_signAt h0.1.g hA.ok (by omega) (by omega), ?_⟩
    rintro _ _ ⟨rfl, rfl⟩
    try simp only [h0.1.e0, h0.1.e1, h0.1.e2, h0.1.e3, h0.1.e4, h0.1.e5, h0.1.e6]
    refine ⟨?_, h0⟩
    rw [aSign, zite_t c1]
theorem c_Ap_marginal {d : Nat} {kd : ZK} {m : ZM} {G : GR} {P : Int → GR} {s : Int} {S : Int → GR} {u : Int} {T : Int → Int} {n : Int} (hA : AI kd m G P s S u T n) {p q a o : Int} : CtI (d + 4) M_Ap_marginal [(2, 0), (0, p), (0, q), (0, a), (0, o)] kd m (fun zz m1 => (zz = aMarginal G p q a o) ∧ AR kd m m1 G P s S u T n) := by
  have h0 := AR.rf hA
  have hok := hA.ok.1
  have hq0 : nQ G 0 = G 0 := rfl
  have hq1 : nQ G 1 = G 1 := rfl
  have ha0 : nA G 0 = G 2 := rfl
  have ha1 : nA G 1 = G 3 := rfl
  refine S_Ap_marginal ?_
  try simp only [h0.1.e0, h0.1.e1, h0.1.e2, h0.1.e3, h0.1.e4, h0.1.e5, h0.1.e6]
  refine ⟨hA.o, ?_⟩
  refine ⟨h0.1.g.1.1, _, c_Game_hasQuestion h0.1.g, ?_⟩
  rintro _ _ ⟨rfl, rfl⟩
  try simp only [h0.1.e0, h0.1.e1, h0.1.e2, h0.1.e3, h0.1.e4, h0.1.e5, h0.1.e6]
  refine ⟨fun c1 => ?_, fun c1 => ?_⟩
  · replace c1 := zb_eq0.1 c1
    refine ⟨?_, h0⟩
    rw [aMarginal, zite_f c1]
  · replace c1 := zb_ne0.1 c1
    refine ⟨hA.o, ?_⟩
    refine ⟨h0.1.g.1.1, _, c_Game_hasAnswer h0.1.g, ?_⟩
    rintro _ _ ⟨rfl, rfl⟩
    try simp only [h0.1.e0, h0.1.e1, h0.1.e2, h0.1.e3, h0.1.e4, h0.1.e5, h0.1.e6]
    refine ⟨fun c2 => ?_, fun c2 => ?_⟩
    · replace c2 := zb_eq0.1 c2
      refine ⟨?_, h0⟩
      rw [aMarginal, zite_t c1, zite_f c2]
    · replace c2 := zb_ne0.1 c2
      rw [iw_s (x := 1 - p) (by omega) (by omega)]
      refine ⟨hA.o, ?_⟩
      refine ⟨h0.1.g.1.1, _, c_Game_hasQuestion h0.1.g, ?_⟩
      rintro _ _ ⟨rfl, rfl⟩
      try simp only [h0.1.e0, h0.1.e1, h0.1.e2, h0.1.e3, h0.1.e4, h0.1.e5, h0.1.e6]
      refine ⟨fun c3 => ?_, fun c3 => ?_⟩
      · replace c3 := zb_ne0.1 c3
        refine ⟨hA.o, ?_⟩
        refine ⟨h0.1.g.1.1, _, c_Game_howOften h0.1.g hA.ok (by omega) (by omega) (by omega) (by omega), ?_⟩
        rintro _ _ ⟨rfl, rfl⟩
        try simp only [h0.1.e0, h0.1.e1, h0.1.e2, h0.1.e3, h0.1.e4, h0.1.e5, h0.1.e6]
        refine ⟨?_, h0⟩
        rw [aMarginal, zite_t c1, zite_t c2, zite_t c3]
      · replace c3 := zb_eq0.1 (Classical.not_not.1 c3)
        refine ⟨?_, h0⟩
        rw [aMarginal, zite_t c1, zite_t c2, zite_f c3]
theorem c_Ap_symmetries {d : Nat} {kd : ZK} {m : ZM} {G : GR} {P : Int → GR} {s : Int} {S : Int → GR} {u : Int} {T : Int → Int} {n : Int} (hA : AI kd m G P s S u T n) : CtI (d + 5) M_Ap_symmetries [(2, 0)] kd m (fun zz m1 => (zz = aSym G) ∧ AR kd m m1 G P s S u T n) := by
  have h0 := AR.rf hA
  have hok := hA.ok.1
  have hq0 : nQ G 0 = G 0 := rfl
  have hq1 : nQ G 1 = G 1 := rfl
  have ha0 : nA G 0 = G 2 := rfl
  have ha1 : nA G 1 = G 3 := rfl
  refine S_Ap_symmetries ?_
  try simp only [h0.1.e0, h0.1.e1, h0.1.e2, h0.1.e3, h0.1.e4, h0.1.e5, h0.1.e6]
  refine ⟨hA.o, ?_⟩
  refine ⟨h0.1.g.1.1, _, c_Game_isTold h0.1.g, ?_⟩
  rintro _ _ ⟨rfl, rfl⟩
  try simp only [h0.1.e0, h0.1.e1, h0.1.e2, h0.1.e3, h0.1.e4, h0.1.e5, h0.1.e6]
  refine ⟨fun c1 => ?_, fun c1 => ?_⟩
  · replace c1 := zb_eq0.1 c1
    replace c1 : ¬ told G := c1
    refine ⟨?_, h0⟩
    rw [aSym, zite_f c1]
  · replace c1 := zb_ne0.1 c1
    replace c1 : told G := c1
    refine ⟨hA.o, hA.o, ?_⟩
    refine ⟨h0.1.sh.1, _, c_Shape_ordersOf h0.1.sh h0.1.g hA.ok c1 (by have := h0.1.z; omega), ?_⟩
    rintro x5 m6 ⟨i6, f6⟩
    have a6 := h0.wk (fun c hc => f6 c (by omega) (by omega))
    try simp only [a6.1.e0, a6.1.e1, a6.1.e2, a6.1.e3, a6.1.e4, a6.1.e5, a6.1.e6]
    refine ⟨?_, a6⟩
    rw [aSym, zite_t c1]
    exact i6
theorem c_Ap_commonDivisor {d : Nat} {kd : ZK} {m : ZM} {a b : Int} (ha : 0 ≤ a ∧ a ≤ 100000) (hb : 0 < b ∧ b ≤ 99) : CtI (d + 1) M_Ap_commonDivisor [(0, a), (0, b)] kd m (qE m (Int.gcd a b)) := by
  have hg := Int.gcd_pos_of_ne_zero_right a (show b ≠ 0 by omega)
  have L0 := zfor2 (100) (fun (i : Int) (x : Int) (y : Int) => Ev (d + 1) M_Ap_commonDivisor 0 0 7 [zJ, zJ, (0, x), (0, y), (0, i), zJ] [] kd m (zqI kd (qE m (Int.gcd a b)))) (fun (i : Int) (x : Int) (y : Int) => 0 ≤ i ∧ 0 ≤ x ∧ 0 ≤ y ∧ y + i ≤ 99 ∧ x ≤ 100000 ∧ Int.gcd x y = Int.gcd a b) (by
    intro i x y hb hI0 KL0
    obtain ⟨hi0, hx, hy, hyi, hx1, hG⟩ := hI0
    refine T_Ap_commonDivisor_7 ?_
    refine ⟨fun c1 => ?_, fun c1 => ?_⟩
    · skip
      refine ⟨fun c2 => ?_, fun c2 => ?_⟩
      · skip
        have hy0 : y = 0 := by omega
        rw [hy0, Int.gcd_zero] at hG
        have hG2 : ((x.natAbs : Nat) : Int) = (Int.gcd a b : Int) := by rw [hG]
        exact ⟨by omega, rfl⟩
      · skip
        have hy0 : y = 0 := by omega
        rw [hy0, Int.gcd_zero] at hG
        have hG2 : ((x.natAbs : Nat) : Int) = (Int.gcd a b : Int) := by rw [hG]
        exact ⟨by omega, rfl⟩
    · skip
      refine ⟨fun c3 => ?_, fun c3 => ?_⟩
      · skip
        refine ⟨fun c4 => ?_, fun c4 => ?_⟩
        · skip
          have hy0 : y = 0 := by omega
          rw [hy0, Int.gcd_zero] at hG
          have hG2 : ((x.natAbs : Nat) : Int) = (Int.gcd a b : Int) := by rw [hG]
          exact ⟨by omega, rfl⟩
        · skip
          have hy0 : y = 0 := by omega
          rw [hy0, Int.gcd_zero] at hG
          have hG2 : ((x.natAbs : Nat) : Int) = (Int.gcd a b : Int) := by rw [hG]
          exact ⟨by omega, rfl⟩
      · skip
        refine ⟨(by assumption), ?_⟩
        rw [iw_s (x := i + 1) (by omega) (by omega)]
        have ht : Int.tmod x y = x % y := Int.tmod_eq_emod_of_nonneg hx
        have hm1 := Int.emod_nonneg x (show y ≠ 0 by omega)
        have hm2 := Int.emod_lt_of_pos x (show 0 < y by omega)
        rw [ht]
        exact KL0 _ _ (by omega) ⟨by omega, by omega, hm1, by omega, by omega, by rw [← Int.gcd_add_mul_left_right y (x % y) (x / y), Int.emod_add_mul_ediv, Int.gcd_comm, hG]⟩)
  refine S_Ap_commonDivisor ?_
  exact L0 0 a b (by omega) ⟨by omega, by omega, by omega, by omega, by omega, rfl⟩
