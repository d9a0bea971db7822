/-! THE CLASS: its methods, third: what changes it -/
theorem c_Ap_weigh {d : Nat} {kd : ZK} {m : ZM} {G : GR} {P : Int → GR} {s : Int} {S : Int → GR} {u : Int} {T : Int → Int} {n : Int} (hA : AI kd m G P s S u T n) {x y k : Int} : CtI (d + 4) M_Ap_weigh [(2, 0), (0, x), (0, y), (0, k)] kd m (fun zz m1 => zz = (fWeigh (G, P, s, S, u, T, n) x y k).1 ∧ AJ kd m m1 (fWeigh (G, P, s, S, u, T, n) x y k).2) := by
  have h0 := AR.rf hA
  have hok := hA.ok.1
  have hq0 : nQ G 0 = G 0 := rfl
  have hq1 : nQ G 1 = G 1 := rfl
  have ha0 : nA G 0 = G 2 := rfl
  have ha1 : nA G 1 = G 3 := rfl
  refine S_Ap_weigh ?_
  try simp only [h0.1.e0, h0.1.e1, h0.1.e2, h0.1.e3, h0.1.e4, h0.1.e5, h0.1.e6]
  refine ⟨hA.o, ?_⟩
  refine ⟨h0.1.g.1.1, _, c_Game_hasCell h0.1.g, ?_⟩
  rintro _ _ ⟨rfl, rfl⟩
  try simp only [h0.1.e0, h0.1.e1, h0.1.e2, h0.1.e3, h0.1.e4, h0.1.e5, h0.1.e6]
  refine ⟨fun c1 => ?_, fun c1 => ?_⟩
  · replace c1 := zb_eq0.1 c1
    simp only [fWeigh]
    rw [zif_f c1]
    exact ⟨rfl, h0⟩
  · replace c1 := zb_ne0.1 c1
    refine ⟨fun c2 => ?_, fun c2 => ?_⟩
    · skip
      simp only [fWeigh]
      rw [zif_t c1, zif_t c2]
      exact ⟨rfl, h0⟩
    · skip
      refine ⟨fun c3 => ?_, fun c3 => ?_⟩
      · skip
        refine ⟨_, c_Ap_cellOf (by omega) (by omega), ?_⟩
        rintro _ _ ⟨rfl, rfl⟩
        try simp only [h0.1.e0, h0.1.e1, h0.1.e2, h0.1.e3, h0.1.e4, h0.1.e5, h0.1.e6]
        have hw := hA.g.W0 (x := x) (y := y) (by omega) (by omega)
        simp only [hw]
        refine ⟨hA.o, h0.1.g.1.1, h0.1.g.1.inW (zC_in (by omega) (by omega)), ?_⟩
        refine ⟨fun c4 => ?_, fun c4 => ?_⟩
        · skip
          refine ⟨hA.o, hA.o, ?_⟩
          refine ⟨h0.1.pc.1.1, _, c_Past_remember h0.1.pc h0.1.g hA.ok (by have := h0.1.z; omega), ?_⟩
          rintro m9 ⟨p9, f9⟩
          have a9 := h0.act p9 f9
          try simp only [a9.1.e0, a9.1.e1, a9.1.e2, a9.1.e3, a9.1.e4, a9.1.e5, a9.1.e6]
          refine ⟨hA.o, a9.1.g.1.1, a9.1.g.1.inW (zC_in (by omega) (by omega)), ?_⟩
          simp only [fWeigh]
          rw [zif_t c1, zif_f c2, zif_t c3, zif_t c4]
          exact ⟨rfl, a9.di ((DI.rf a9.1.g a9.1.ok).putW (p := 0) (Or.inl rfl) (by omega) (show 0 ≤ y ∧ y < nQ G 1 by omega) (by omega))⟩
        · skip
          simp only [fWeigh]
          rw [zif_t c1, zif_f c2, zif_t c3, zif_f c4]
          exact ⟨rfl, h0⟩
      · skip
        simp only [fWeigh]
        rw [zif_t c1, zif_f c2, zif_f c3]
        exact ⟨rfl, h0⟩
theorem c_Ap_box {d : Nat} {kd : ZK} {m : ZM} {G : GR} {P : Int → GR} {s : Int} {S : Int → GR} {u : Int} {T : Int → Int} {n : Int} (hA : AI kd m G P s S u T n) {x y a b k : Int} : CtI (d + 5) M_Ap_box [(2, 0), (0, x), (0, y), (0, a), (0, b), (0, k)] kd m (fun zz m1 => zz = (fBox (G, P, s, S, u, T, n) x y a b k).1 ∧ AJ kd m m1 (fBox (G, P, s, S, u, T, n) x y a b k).2) := by
  have h0 := AR.rf hA
  have hok := hA.ok.1
  have hq0 : nQ G 0 = G 0 := rfl
  have hq1 : nQ G 1 = G 1 := rfl
  have ha0 : nA G 0 = G 2 := rfl
  have ha1 : nA G 1 = G 3 := rfl
  refine S_Ap_box ?_
  try simp only [h0.1.e0, h0.1.e1, h0.1.e2, h0.1.e3, h0.1.e4, h0.1.e5, h0.1.e6]
  refine ⟨hA.o, ?_⟩
  refine ⟨h0.1.g.1.1, _, c_Game_hasSpot h0.1.g, ?_⟩
  rintro _ _ ⟨rfl, rfl⟩
  try simp only [h0.1.e0, h0.1.e1, h0.1.e2, h0.1.e3, h0.1.e4, h0.1.e5, h0.1.e6]
  refine ⟨fun c1 => ?_, fun c1 => ?_⟩
  · replace c1 := zb_eq0.1 c1
    simp only [fBox]
    rw [zif_f c1]
    exact ⟨rfl, h0⟩
  · replace c1 := zb_ne0.1 c1
    refine ⟨fun c2 => ?_, fun c2 => ?_⟩
    · skip
      simp only [fBox]
      rw [zif_t c1, zif_t c2]
      exact ⟨rfl, h0⟩
    · skip
      refine ⟨fun c3 => ?_, fun c3 => ?_⟩
      · skip
        refine ⟨_, c_Ap_spotOf (by omega) (by omega) (by omega) (by omega), ?_⟩
        rintro _ _ ⟨rfl, rfl⟩
        try simp only [h0.1.e0, h0.1.e1, h0.1.e2, h0.1.e3, h0.1.e4, h0.1.e5, h0.1.e6]
        have hw := hA.g.B0 (x := x) (y := y) (a := a) (b := b) (by omega) (by omega) (by omega) (by omega)
        simp only [hw]
        refine ⟨hA.o, h0.1.g.1.1, h0.1.g.1.inB (zS_in (by omega) (by omega) (by omega) (by omega)), ?_⟩
        refine ⟨fun c4 => ?_, fun c4 => ?_⟩
        · skip
          refine ⟨hA.o, hA.o, ?_⟩
          refine ⟨h0.1.pc.1.1, _, c_Past_remember h0.1.pc h0.1.g hA.ok (by have := h0.1.z; omega), ?_⟩
          rintro m9 ⟨p9, f9⟩
          have a9 := h0.act p9 f9
          try simp only [a9.1.e0, a9.1.e1, a9.1.e2, a9.1.e3, a9.1.e4, a9.1.e5, a9.1.e6]
          refine ⟨hA.o, a9.1.g.1.1, a9.1.g.1.inB (zS_in (by omega) (by omega) (by omega) (by omega)), ?_⟩
          simp only [fBox]
          rw [zif_t c1, zif_f c2, zif_t c3, zif_t c4]
          exact ⟨rfl, a9.di ((DI.rf a9.1.g a9.1.ok).putB (p := 0) (Or.inl rfl) (by omega) (show 0 ≤ y ∧ y < nQ G 1 by omega) (by omega) (show 0 ≤ b ∧ b < nA G 1 by omega) (by omega))⟩
        · skip
          simp only [fBox]
          rw [zif_t c1, zif_f c2, zif_t c3, zif_f c4]
          exact ⟨rfl, h0⟩
      · skip
        simp only [fBox]
        rw [zif_t c1, zif_f c2, zif_f c3]
        exact ⟨rfl, h0⟩
theorem c_Ap_decide {d : Nat} {kd : ZK} {m : ZM} {G : GR} {P : Int → GR} {s : Int} {S : Int → GR} {u : Int} {T : Int → Int} {n : Int} (hA : AI kd m G P s S u T n) {x y a b : Int} : CtI (d + 5) M_Ap_decide [(2, 0), (0, x), (0, y), (0, a), (0, b)] kd m (fun zz m1 => zz = (fDecide (G, P, s, S, u, T, n) x y a b).1 ∧ AJ kd m m1 (fDecide (G, P, s, S, u, T, n) x y a b).2) := by
  have h0 := AR.rf hA
  have hok := hA.ok.1
  have hq0 : nQ G 0 = G 0 := rfl
  have hq1 : nQ G 1 = G 1 := rfl
  have ha0 : nA G 0 = G 2 := rfl
  have ha1 : nA G 1 = G 3 := rfl
  refine S_Ap_decide ?_
  try simp only [h0.1.e0, h0.1.e1, h0.1.e2, h0.1.e3, h0.1.e4, h0.1.e5, h0.1.e6]
  refine ⟨hA.o, ?_⟩
  refine ⟨h0.1.g.1.1, _, c_Game_hasSpot h0.1.g, ?_⟩
  rintro _ _ ⟨rfl, rfl⟩
  try simp only [h0.1.e0, h0.1.e1, h0.1.e2, h0.1.e3, h0.1.e4, h0.1.e5, h0.1.e6]
  refine ⟨fun c1 => ?_, fun c1 => ?_⟩
  · replace c1 := zb_ne0.1 c1
    refine ⟨hA.o, hA.o, ?_⟩
    refine ⟨h0.1.pc.1.1, _, c_Past_remember h0.1.pc h0.1.g hA.ok (by have := h0.1.z; omega), ?_⟩
    rintro m6 ⟨p6, f6⟩
    have a6 := h0.act p6 f6
    try simp only [a6.1.e0, a6.1.e1, a6.1.e2, a6.1.e3, a6.1.e4, a6.1.e5, a6.1.e6]
    refine ⟨_, c_Ap_spotOf (by omega) (by omega) (by omega) (by omega), ?_⟩
    rintro _ _ ⟨rfl, rfl⟩
    try simp only [a6.1.e0, a6.1.e1, a6.1.e2, a6.1.e3, a6.1.e4, a6.1.e5, a6.1.e6]
    have hz6 := a6.1.z
    have hv := a6.1.g.V0 (x := x) (y := y) (a := a) (b := b) (by omega) (by omega) (by omega) (by omega)
    have hv1 := hA.ok.gV x y a b
    have aD := a6.di ((DI.rf a6.1.g a6.1.ok).putV (p := 0) (x := x) (y := y) (a := a) (b := b) (v := 1 - gV G x y a b) (Or.inl rfl) (by omega) (show 0 ≤ y ∧ y < nQ G 1 by omega) (by omega) (show 0 ≤ b ∧ b < nA G 1 by omega) (by omega))
    simp only [hv]
    rw [iw_s (x := 1 - gV G x y a b) (by omega) (by omega)]
    have h85 := a6.1.g.1.2.1.2.1
    have hD8 : (zup m6 (m6 (m6 0 8) 5) (zS 0 x y a b) (1 - gV G x y a b)) 0 8 = m6 0 8 := by rw [h85, zup_ne (by omega)]
    have hD3 : (zup m6 (m6 (m6 0 8) 5) (zS 0 x y a b) (1 - gV G x y a b)) (m6 0 8) 5 = m6 (m6 0 8) 5 := by rw [zup_ne (by rw [h85]; omega)]
    have hDo := aD.1.g.1.1
    have hD5 := aD.1.g.1.inV (zS_in (p := 0) (x := x) (y := y) (a := a) (b := b) (by omega) (by omega) (by omega) (by omega))
    refine ⟨hA.o, a6.1.g.1.1, hA.o, a6.1.g.1.1, a6.1.g.1.inV (zS_in (by omega) (by omega) (by omega) (by omega)), a6.1.g.1.inV (zS_in (by omega) (by omega) (by omega) (by omega)), hA.o, hDo, hD5, ?_⟩
    simp only [fDecide]
    rw [zif_t c1]
    simp only [hD8, hD3]
    rw [zup_self]
    exact ⟨rfl, aD⟩
  · replace c1 := zb_eq0.1 (Classical.not_not.1 c1)
    simp only [fDecide]
    rw [zif_f c1]
    exact ⟨rfl, h0⟩
theorem c_Ap_parity {d : Nat} {kd : ZK} {m : ZM} {G : GR} {P : Int → GR} {s : Int} {S : Int → GR} {u : Int} {T : Int → Int} {n : Int} (hA : AI kd m G P s S u T n) {x y k : Int} : CtI (d + 4) M_Ap_parity [(2, 0), (0, x), (0, y), (0, k)] kd m (fun zz m1 => zz = (fParity (G, P, s, S, u, T, n) x y k).1 ∧ AJ kd m m1 (fParity (G, P, s, S, u, T, n) x y k).2) := by
  have h0 := AR.rf hA
  have hok := hA.ok.1
  have hq0 : nQ G 0 = G 0 := rfl
  have hq1 : nQ G 1 = G 1 := rfl
  have ha0 : nA G 0 = G 2 := rfl
  have ha1 : nA G 1 = G 3 := rfl
  refine S_Ap_parity ?_
  try simp only [h0.1.e0, h0.1.e1, h0.1.e2, h0.1.e3, h0.1.e4, h0.1.e5, h0.1.e6]
  refine ⟨hA.o, ?_⟩
  refine ⟨h0.1.g.1.1, _, c_Game_hasCell h0.1.g, ?_⟩
  rintro _ _ ⟨rfl, rfl⟩
  try simp only [h0.1.e0, h0.1.e1, h0.1.e2, h0.1.e3, h0.1.e4, h0.1.e5, h0.1.e6]
  refine ⟨fun c1 => ?_, fun c1 => ?_⟩
  · replace c1 := zb_eq0.1 c1
    simp only [fParity]
    rw [zif_f c1]
    exact ⟨rfl, h0⟩
  · replace c1 := zb_ne0.1 c1
    refine ⟨fun c2 => ?_, fun c2 => ?_⟩
    · skip
      simp only [fParity]
      rw [zif_t c1, zif_t c2]
      exact ⟨rfl, h0⟩
    · skip
      refine ⟨fun c3 => ?_, fun c3 => ?_⟩
      · skip
        rw [iw_s (x := 2 * k) (by omega) (by omega), iw_s (x := 1 - 2 * k) (by omega) (by omega)]
        refine ⟨hA.o, ?_⟩
        refine ⟨h0.1.g.1.1, _, c_Game_signAt h0.1.g hA.ok (by omega) (by omega), ?_⟩
        rintro _ _ ⟨rfl, rfl⟩
        try simp only [h0.1.e0, h0.1.e1, h0.1.e2, h0.1.e3, h0.1.e4, h0.1.e5, h0.1.e6]
        refine ⟨fun c4 => ?_, fun c4 => ?_⟩
        · skip
          refine ⟨hA.o, hA.o, ?_⟩
          refine ⟨h0.1.pc.1.1, _, c_Past_remember h0.1.pc h0.1.g hA.ok (by have := h0.1.z; omega), ?_⟩
          rintro m9 ⟨p9, f9⟩
          have a9 := h0.act p9 f9
          try simp only [a9.1.e0, a9.1.e1, a9.1.e2, a9.1.e3, a9.1.e4, a9.1.e5, a9.1.e6]
          refine ⟨hA.o, ?_⟩
          refine ⟨a9.1.g.1.1, _, c_Game_winByParity a9.1.g a9.1.ok (by omega) (by omega), ?_⟩
          rintro m12 i12
          have a12 := a9.di i12
          try simp only [a12.1.e0, a12.1.e1, a12.1.e2, a12.1.e3, a12.1.e4, a12.1.e5, a12.1.e6]
          simp only [fParity]
          rw [zif_t c1, zif_f c2, zif_t c3, zif_t c4]
          exact ⟨rfl, a12⟩
        · skip
          simp only [fParity]
          rw [zif_t c1, zif_f c2, zif_t c3, zif_f c4]
          exact ⟨rfl, h0⟩
      · skip
        simp only [fParity]
        rw [zif_t c1, zif_f c2, zif_f c3]
        exact ⟨rfl, h0⟩
theorem c_Ap_exchange {d : Nat} {kd : ZK} {m : ZM} {G : GR} {P : Int → GR} {s : Int} {S : Int → GR} {u : Int} {T : Int → Int} {n : Int} (hA : AI kd m G P s S u T n) {p q a o : Int} : CtI (d + 4) M_Ap_exchange [(2, 0), (0, p), (0, q), (0, a), (0, o)] kd m (fun zz m1 => zz = (fExchange (G, P, s, S, u, T, n) p q a o).1 ∧ AJ kd m m1 (fExchange (G, P, s, S, u, T, n) p q a o).2) := by
  have h0 := AR.rf hA
  have hok := hA.ok.1
  have hq0 : nQ G 0 = G 0 := rfl
  have hq1 : nQ G 1 = G 1 := rfl
  have ha0 : nA G 0 = G 2 := rfl
  have ha1 : nA G 1 = G 3 := rfl
  refine S_Ap_exchange ?_
  try simp only [h0.1.e0, h0.1.e1, h0.1.e2, h0.1.e3, h0.1.e4, h0.1.e5, h0.1.e6]
  refine ⟨hA.o, ?_⟩
  refine ⟨h0.1.g.1.1, _, c_Game_hasTwoAnswers h0.1.g, ?_⟩
  rintro _ _ ⟨rfl, rfl⟩
  try simp only [h0.1.e0, h0.1.e1, h0.1.e2, h0.1.e3, h0.1.e4, h0.1.e5, h0.1.e6]
  refine ⟨fun c1 => ?_, fun c1 => ?_⟩
  · replace c1 := zb_ne0.1 c1
    refine ⟨hA.o, hA.o, ?_⟩
    refine ⟨h0.1.pc.1.1, _, c_Past_remember h0.1.pc h0.1.g hA.ok (by have := h0.1.z; omega), ?_⟩
    rintro m6 ⟨p6, f6⟩
    have a6 := h0.act p6 f6
    try simp only [a6.1.e0, a6.1.e1, a6.1.e2, a6.1.e3, a6.1.e4, a6.1.e5, a6.1.e6]
    refine ⟨hA.o, ?_⟩
    refine ⟨a6.1.g.1.1, _, c_Game_exchangeAnswers a6.1.g a6.1.ok (by omega) (by omega) (by omega) (by omega), ?_⟩
    rintro m9 i9
    have a9 := a6.di i9
    try simp only [a9.1.e0, a9.1.e1, a9.1.e2, a9.1.e3, a9.1.e4, a9.1.e5, a9.1.e6]
    simp only [fExchange]
    rw [zif_t c1]
    exact ⟨rfl, a9⟩
  · replace c1 := zb_eq0.1 (Classical.not_not.1 c1)
    simp only [fExchange]
    rw [zif_f c1]
    exact ⟨rfl, h0⟩
theorem c_Ap_takeSpare {d : Nat} {kd : ZK} {m : ZM} (ho : zobj kd 0 7) : CtV (d + 1) M_Ap_takeSpare [(2, 0)] kd m (fun m1 => m1 = zup (zup m 0 8 (m 0 9)) 0 9 (m 0 8)) := by
  exact S_Ap_takeSpare ⟨ho, ho, ho, ho, rfl⟩
theorem c_Ap_swap {d : Nat} {kd : ZK} {m : ZM} {G : GR} {P : Int → GR} {s : Int} {S : Int → GR} {u : Int} {T : Int → Int} {n : Int} (hA : AI kd m G P s S u T n) : CtI (d + 5) M_Ap_swap [(2, 0)] kd m (fun zz m1 => zz = (fSwap (G, P, s, S, u, T, n)).1 ∧ AJ kd m m1 (fSwap (G, P, s, S, u, T, n)).2) := by
  have h0 := AR.rf hA
  have hok := hA.ok.1
  have hq0 : nQ G 0 = G 0 := rfl
  have hq1 : nQ G 1 = G 1 := rfl
  have ha0 : nA G 0 = G 2 := rfl
  have ha1 : nA G 1 = G 3 := rfl
  refine S_Ap_swap ?_
  try simp only [h0.1.e0, h0.1.e1, h0.1.e2, h0.1.e3, h0.1.e4, h0.1.e5, h0.1.e6]
  refine ⟨hA.o, ?_⟩
  refine ⟨h0.1.g.1.1, _, c_Game_isTold h0.1.g, ?_⟩
  rintro _ _ ⟨rfl, rfl⟩
  try simp only [h0.1.e0, h0.1.e1, h0.1.e2, h0.1.e3, h0.1.e4, h0.1.e5, h0.1.e6]
  refine ⟨fun c1 => ?_, fun c1 => ?_⟩
  · replace c1 := zb_ne0.1 c1
    refine ⟨hA.o, hA.o, ?_⟩
    refine ⟨h0.1.pc.1.1, _, c_Past_remember h0.1.pc h0.1.g hA.ok (by have := h0.1.z; omega), ?_⟩
    rintro m6 ⟨p6, f6⟩
    have a6 := h0.act p6 f6
    try simp only [a6.1.e0, a6.1.e1, a6.1.e2, a6.1.e3, a6.1.e4, a6.1.e5, a6.1.e6]
    refine ⟨hA.o, hA.o, ?_⟩
    refine ⟨a6.1.sp.1, _, c_Game_becomeFlipped a6.1.sp a6.1.g a6.1.ok (by have := a6.1.z; omega), ?_⟩
    rintro m9 ⟨g9, f9⟩
    have hz6 := a6.1.z
    have a9 := a6.sx g9.1 f9
    have e9 : m9 0 9 = m6 0 9 := by rw [f9 0 (by omega)]
    have g9b : CG kd m9 (m9 0 9) (opSwap G) := by rw [e9]; exact g9
    try simp only [a9.1.e0, a9.1.e1, a9.1.e2, a9.1.e3, a9.1.e4, a9.1.e5, a9.1.e6]
    refine ⟨hA.o, _, c_Ap_takeSpare hA.o, ?_⟩
    rintro _ rfl
    try simp only [a9.1.e0, a9.1.e1, a9.1.e2, a9.1.e3, a9.1.e4, a9.1.e5, a9.1.e6]
    have a12 := a9.sw g9b (opSwap_ok hA.ok c1)
    try simp only [a12.1.e0, a12.1.e1, a12.1.e2, a12.1.e3, a12.1.e4, a12.1.e5, a12.1.e6]
    simp only [fSwap]
    rw [zif_t c1]
    exact ⟨rfl, a12⟩
  · replace c1 := zb_eq0.1 (Classical.not_not.1 c1)
    simp only [fSwap]
    rw [zif_f c1]
    exact ⟨rfl, h0⟩
theorem c_Ap_drop {d : Nat} {kd : ZK} {m : ZM} {G : GR} {P : Int → GR} {s : Int} {S : Int → GR} {u : Int} {T : Int → Int} {n : Int} (hA : AI kd m G P s S u T n) {p q : Int} : CtI (d + 5) M_Ap_drop [(2, 0), (0, p), (0, q)] kd m (fun zz m1 => zz = (fDrop (G, P, s, S, u, T, n) p q).1 ∧ AJ kd m m1 (fDrop (G, P, s, S, u, T, n) p q).2) := by
  have h0 := AR.rf hA
  have hok := hA.ok.1
  have hq0 : nQ G 0 = G 0 := rfl
  have hq1 : nQ G 1 = G 1 := rfl
  have ha0 : nA G 0 = G 2 := rfl
  have ha1 : nA G 1 = G 3 := rfl
  refine S_Ap_drop ?_
  try simp only [h0.1.e0, h0.1.e1, h0.1.e2, h0.1.e3, h0.1.e4, h0.1.e5, h0.1.e6]
  refine ⟨hA.o, ?_⟩
  refine ⟨h0.1.g.1.1, _, c_Game_hasQuestion h0.1.g, ?_⟩
  rintro _ _ ⟨rfl, rfl⟩
  try simp only [h0.1.e0, h0.1.e1, h0.1.e2, h0.1.e3, h0.1.e4, h0.1.e5, h0.1.e6]
  refine ⟨fun c1 => ?_, fun c1 => ?_⟩
  · replace c1 := zb_ne0.1 c1
    refine ⟨hA.o, ?_⟩
    refine ⟨h0.1.g.1.1, _, c_Game_questionsOf h0.1.g, ?_⟩
    rintro _ _ ⟨rfl, rfl⟩
    try simp only [h0.1.e0, h0.1.e1, h0.1.e2, h0.1.e3, h0.1.e4, h0.1.e5, h0.1.e6]
    refine ⟨fun c2 => ?_, fun c2 => ?_⟩
    · skip
      refine ⟨hA.o, hA.o, ?_⟩
      refine ⟨h0.1.pc.1.1, _, c_Past_remember h0.1.pc h0.1.g hA.ok (by have := h0.1.z; omega), ?_⟩
      rintro m9 ⟨p9, f9⟩
      have a9 := h0.act p9 f9
      try simp only [a9.1.e0, a9.1.e1, a9.1.e2, a9.1.e3, a9.1.e4, a9.1.e5, a9.1.e6]
      refine ⟨hA.o, ?_⟩
      refine ⟨a9.1.g.1.1, _, c_Game_dropQuestion a9.1.g a9.1.ok (by omega) (by omega), ?_⟩
      rintro x11 m12 ⟨i12, g12, f12⟩
      have hd2 : 2 ≤ nQ G p := by omega
      have a12 := a9.gm g12 (opDrop_ok hA.ok (by omega) hd2) f12
      subst i12
      try simp only [a12.1.e0, a12.1.e1, a12.1.e2, a12.1.e3, a12.1.e4, a12.1.e5, a12.1.e6]
      simp only [fDrop]
      rw [zif_t c1, zif_t c2]
      exact ⟨rfl, a12⟩
    · skip
      simp only [fDrop]
      rw [zif_t c1, zif_f c2]
      exact ⟨rfl, h0⟩
  · replace c1 := zb_eq0.1 (Classical.not_not.1 c1)
    simp only [fDrop]
    rw [zif_f c1]
    exact ⟨rfl, h0⟩
theorem tldQ {G : GR} (hv : 0 < G 1 → 0 < G 0) {p q : Int} (h : isQ G p q) : 0 < G 0 := by
  rcases h with ⟨hp, h2, h3⟩
  rcases hp with e | e
  · subst e
    exact Int.lt_of_le_of_lt h2 h3
  · subst e
    exact hv (Int.lt_of_le_of_lt h2 h3)
theorem c_Ap_copy {d : Nat} {kd : ZK} {m : ZM} {G : GR} {P : Int → GR} {s : Int} {S : Int → GR} {u : Int} {T : Int → Int} {n : Int} (hA : AI kd m G P s S u T n) {p q : Int} (hv : 0 < G 1 → 0 < G 0) : CtI (d + 5) M_Ap_copy [(2, 0), (0, p), (0, q)] kd m (fun zz m1 => zz = (fCopy (G, P, s, S, u, T, n) p q).1 ∧ AJ kd m m1 (fCopy (G, P, s, S, u, T, n) p q).2) := by
  have h0 := AR.rf hA
  have hok := hA.ok.1
  have hq0 : nQ G 0 = G 0 := rfl
  have hq1 : nQ G 1 = G 1 := rfl
  have ha0 : nA G 0 = G 2 := rfl
  have ha1 : nA G 1 = G 3 := rfl
  have hqp := hA.ok.q p
  refine S_Ap_copy ?_
  try simp only [h0.1.e0, h0.1.e1, h0.1.e2, h0.1.e3, h0.1.e4, h0.1.e5, h0.1.e6]
  refine ⟨hA.o, ?_⟩
  refine ⟨h0.1.g.1.1, _, c_Game_hasQuestion h0.1.g, ?_⟩
  rintro _ _ ⟨rfl, rfl⟩
  try simp only [h0.1.e0, h0.1.e1, h0.1.e2, h0.1.e3, h0.1.e4, h0.1.e5, h0.1.e6]
  refine ⟨fun c1 => ?_, fun c1 => ?_⟩
  · replace c1 := zb_ne0.1 c1
    refine ⟨hA.o, ?_⟩
    refine ⟨h0.1.g.1.1, _, c_Game_questionsOf h0.1.g, ?_⟩
    rintro _ _ ⟨rfl, rfl⟩
    try simp only [h0.1.e0, h0.1.e1, h0.1.e2, h0.1.e3, h0.1.e4, h0.1.e5, h0.1.e6]
    refine ⟨fun c2 => ?_, fun c2 => ?_⟩
    · skip
      refine ⟨hA.o, hA.o, ?_⟩
      refine ⟨h0.1.pc.1.1, _, c_Past_remember h0.1.pc h0.1.g hA.ok (by have := h0.1.z; omega), ?_⟩
      rintro m9 ⟨p9, f9⟩
      have a9 := h0.act p9 f9
      try simp only [a9.1.e0, a9.1.e1, a9.1.e2, a9.1.e3, a9.1.e4, a9.1.e5, a9.1.e6]
      refine ⟨hA.o, ?_⟩
      refine ⟨a9.1.g.1.1, _, c_Game_addQuestionLike a9.1.g a9.1.ok (by omega) (by omega) (by omega), ?_⟩
      rintro x11 m12 ⟨i12, g12, f12⟩
      have a12 := a9.gm g12 (opCopy_ok hA.ok (by omega) (by omega) (tldQ hv c1)) f12
      subst i12
      try simp only [a12.1.e0, a12.1.e1, a12.1.e2, a12.1.e3, a12.1.e4, a12.1.e5, a12.1.e6]
      simp only [fCopy]
      rw [zif_t c1, zif_t c2]
      exact ⟨rfl, a12⟩
    · skip
      simp only [fCopy]
      rw [zif_t c1, zif_f c2]
      exact ⟨rfl, h0⟩
  · replace c1 := zb_eq0.1 (Classical.not_not.1 c1)
    simp only [fCopy]
    rw [zif_f c1]
    exact ⟨rfl, h0⟩
theorem mx_iff {G : GR} {r s r2 s2 : Int → Int} {t k : Int} (h : isGB G r2 s2 (G 0) 0 t) (e : ∀ q, 0 ≤ q → q < G 0 → r2 q = r q) (f : ∀ q, 0 ≤ q → q < G 1 → s2 q = s q) (hk : k ≤ 12) : t + k ≤ 12 ↔ mxOk G r s k := by
  refine ⟨fun h1 x y x1 x2 y1 y2 => ?_, fun h1 => ?_⟩
  · have := h.2.1 x y x1 y1 y2 (Or.inl x2)
    unfold bxB at this
    rw [e x x1 x2, f y y1 y2] at this
    omega
  · rcases h.2.2 with q | ⟨x, y, x1, x2, y1, y2, q⟩
    · omega
    · have := h1 x y x1 x2 y1 y2
      unfold bxB at q
      rw [e x x1 x2, f y y1 y2] at q
      omega
theorem c_Ap_mix {d : Nat} {kd : ZK} {m : ZM} {G : GR} {P : Int → GR} {s : Int} {S : Int → GR} {u : Int} {T : Int → Int} {n : Int} (hA : AI kd m G P s S u T n) {y z k : Int} (hz1 : zin32 y) (hz2 : zin32 z) : CtI (d + 5) M_Ap_mix [(2, 0), (0, y), (0, z), (0, k)] kd m (fun zz m1 => zz = (fMix (G, P, s, S, u, T, n) y z k).1 ∧ AJ kd m m1 (fMix (G, P, s, S, u, T, n) y z k).2) := by
  have h0 := AR.rf hA
  have hok := hA.ok.1
  have hq0 : nQ G 0 = G 0 := rfl
  have hq1 : nQ G 1 = G 1 := rfl
  have ha0 : nA G 0 = G 2 := rfl
  have ha1 : nA G 1 = G 3 := rfl
  refine S_Ap_mix ?_
  try simp only [h0.1.e0, h0.1.e1, h0.1.e2, h0.1.e3, h0.1.e4, h0.1.e5, h0.1.e6]
  refine ⟨hA.o, hA.o, ?_⟩
  refine ⟨h0.1.du.1.1, _, c_Duo_takeBoth h0.1.du h0.1.g hA.ok (by have := h0.1.z; omega) hz1 hz2, ?_⟩
  rintro x2 m3 ⟨i3, f3, r3⟩
  have a3 := h0.wk (fun c hc => f3 c (by omega) (by omega))
  subst i3
  try simp only [a3.1.e0, a3.1.e1, a3.1.e2, a3.1.e3, a3.1.e4, a3.1.e5, a3.1.e6]
  refine ⟨fun c1 => ?_, fun c1 => ?_⟩
  · replace c1 := zb_eq0.1 c1
    simp only [fMix]
    rw [zif_f c1]
    exact ⟨rfl, a3⟩
  · replace c1 := zb_ne0.1 c1
    have hto : 0 < G 0 := c1.1.1.1
    have hrr := r3 c1
    have hr1 : isRw G 0 (drow G 0 y) := c1.1.rw (fun q q1 q2 => rfl)
    have hr2 : isRw G 1 (drow G 1 z) := c1.2.rw (fun q q1 q2 => rfl)
    have hrm : isRw G 0 (m3 53) ∧ isRw G 1 (m3 54) := ⟨c1.1.rw (fun q q1 q2 => hrr.1 q q1 q2), c1.2.rw (fun q q1 q2 => hrr.2 q q1 q2)⟩
    refine ⟨fun c2 => ?_, fun c2 => ?_⟩
    · skip
      simp only [fMix]
      rw [zif_t c1, zif_t c2]
      exact ⟨rfl, a3⟩
    · skip
      refine ⟨fun c3 => ?_, fun c3 => ?_⟩
      · skip
        refine ⟨hA.o, hA.o, ?_⟩
        refine ⟨a3.1.du.1.1, _, c_Duo_greatestBox a3.1.du a3.1.g hA.ok hrm.1 hrm.2, ?_⟩
        rintro x5 m6 ⟨gb, rfl⟩
        try simp only [a3.1.e0, a3.1.e1, a3.1.e2, a3.1.e3, a3.1.e4, a3.1.e5, a3.1.e6]
        have gbi := gb.1
        have gbe := mx_iff (r := drow G 0 y) (s := drow G 1 z) (k := k) gb hrr.1 hrr.2 (by omega)
        rw [iw_s (x := x5 + k) (by omega) (by omega)]
        refine ⟨fun c4 => ?_, fun c4 => ?_⟩
        · skip
          replace c4 := gbe.1 c4
          refine ⟨hA.o, hA.o, ?_⟩
          refine ⟨a3.1.pc.1.1, _, c_Past_remember a3.1.pc a3.1.g hA.ok (by have := a3.1.z; omega), ?_⟩
          rintro m9 ⟨p9, f9⟩
          have a9 := a3.act p9 f9
          have hre9 : RE G m9 53 54 (drow G 0 y) (drow G 1 z) := ⟨fun q q1 q2 => by rw [f9 53 (by omega)]; exact hrr.1 q q1 q2, fun q q1 q2 => by rw [f9 54 (by omega)]; exact hrr.2 q q1 q2⟩
          try simp only [a9.1.e0, a9.1.e1, a9.1.e2, a9.1.e3, a9.1.e4, a9.1.e5, a9.1.e6]
          refine ⟨hA.o, hA.o, ?_⟩
          refine ⟨a9.1.du.1.1, _, c_Duo_addToBoxes a9.1.du a9.1.g a9.1.ok (by have := a9.1.z; omega) hr1 hr2 hre9 (by omega) c4, ?_⟩
          rintro m12 i12
          have a12 := a9.di i12
          try simp only [a12.1.e0, a12.1.e1, a12.1.e2, a12.1.e3, a12.1.e4, a12.1.e5, a12.1.e6]
          simp only [fMix]
          rw [zif_t c1, zif_f c2, zif_t c3, zif_t c4]
          exact ⟨rfl, a12⟩
        · skip
          replace c4 : ¬ mxOk G (drow G 0 y) (drow G 1 z) k := fun h => c4 (gbe.2 h)
          simp only [fMix]
          rw [zif_t c1, zif_f c2, zif_t c3, zif_f c4]
          exact ⟨rfl, a3⟩
      · skip
        simp only [fMix]
        rw [zif_t c1, zif_f c2, zif_f c3]
        exact ⟨rfl, a3⟩
theorem c_Ap_draw {d : Nat} {kd : ZK} {m : ZM} {G : GR} {P : Int → GR} {s : Int} {S : Int → GR} {u : Int} {T : Int → Int} {n : Int} (hA : AI kd m G P s S u T n) {k : Int} : CtI (d + 5) M_Ap_draw [(2, 0), (0, k)] kd m (fun zz m1 => zz = (fDraw (G, P, s, S, u, T, n) k).1 ∧ AJ kd m m1 (fDraw (G, P, s, S, u, T, n) k).2) := by
  have h0 := AR.rf hA
  have hok := hA.ok.1
  have hq0 : nQ G 0 = G 0 := rfl
  have hq1 : nQ G 1 = G 1 := rfl
  have ha0 : nA G 0 = G 2 := rfl
  have ha1 : nA G 1 = G 3 := rfl
  refine S_Ap_draw ?_
  try simp only [h0.1.e0, h0.1.e1, h0.1.e2, h0.1.e3, h0.1.e4, h0.1.e5, h0.1.e6]
  refine ⟨hA.o, ?_⟩
  refine ⟨h0.1.g.1.1, _, c_Game_isTold h0.1.g, ?_⟩
  rintro _ _ ⟨rfl, rfl⟩
  try simp only [h0.1.e0, h0.1.e1, h0.1.e2, h0.1.e3, h0.1.e4, h0.1.e5, h0.1.e6]
  refine ⟨fun c1 => ?_, fun c1 => ?_⟩
  · replace c1 := zb_ne0.1 c1
    refine ⟨hA.o, hA.o, ?_⟩
    refine ⟨h0.1.pc.1.1, _, c_Past_remember h0.1.pc h0.1.g hA.ok (by have := h0.1.z; omega), ?_⟩
    rintro m6 ⟨p6, f6⟩
    have a6 := h0.act p6 f6
    try simp only [a6.1.e0, a6.1.e1, a6.1.e2, a6.1.e3, a6.1.e4, a6.1.e5, a6.1.e6]
    refine ⟨hA.o, ?_⟩
    refine ⟨a6.1.g.1.1, _, c_Game_drawAll a6.1.g a6.1.ok, ?_⟩
    rintro m9 i9
    have a9 := a6.di i9
    try simp only [a9.1.e0, a9.1.e1, a9.1.e2, a9.1.e3, a9.1.e4, a9.1.e5, a9.1.e6]
    refine ⟨hA.o, ?_⟩
    refine ⟨a9.1.g.1.1, _, c_Game_winningSpots a9.1.g a9.1.ok, ?_⟩
    rintro _ _ ⟨rfl, rfl⟩
    try simp only [a9.1.e0, a9.1.e1, a9.1.e2, a9.1.e3, a9.1.e4, a9.1.e5, a9.1.e6]
    simp only [fDraw]
    rw [zif_t c1]
    exact ⟨rfl, a9⟩
  · replace c1 := zb_eq0.1 (Classical.not_not.1 c1)
    simp only [fDraw]
    rw [zif_f c1]
    exact ⟨rfl, h0⟩
theorem c_Ap_undo {d : Nat} {kd : ZK} {m : ZM} {G : GR} {P : Int → GR} {s : Int} {S : Int → GR} {u : Int} {T : Int → Int} {n : Int} (hA : AI kd m G P s S u T n) : CtI (d + 3) M_Ap_undo [(2, 0)] kd m (fun x m1 => x = (fUndo (G, P, s, S, u, T, n)).1 ∧ AJ kd m m1 (fUndo (G, P, s, S, u, T, n)).2) := by
  refine S_Ap_undo ?_
  have e32 := hA.pc.2.2.2.1
  simp only [hA.e1, e32.1]
  refine ⟨hA.o, hA.pc.1.1, fun c1 => ?_, fun c1 => ?_⟩
  · refine ⟨hA.o, hA.o, hA.pc.1.1, _, c_Past_restore hA.pc (by omega) hA.g.1 (by have := hA.z; omega), ?_⟩
    rintro m3 ⟨p3, g3, f3⟩
    have hz := hA.z
    have e0 : m3 0 = m 0 := f3 0 (by decide) (by omega)
    have hpo := hA.pc.2.2.2.2 (s - 1) (by omega) (by omega)
    rw [show m3 0 1 = 3 by rw [e0]; exact hA.e1]
    refine ⟨hA.o, p3.1.1, ?_⟩
    simp only [fUndo]
    rw [zif_t c1]
    refine ⟨p3.2.2.2.1.1, hA.fr e0 (fun c c1 c2 => f3 c (by omega) (by omega)) ⟨g3, hpo.2⟩ (hA.sp.frame (f3 _ (by omega) (by omega))) p3 (hA.tb.frame (f3 45 (by decide) (by omega))) (hA.du.frame (f3 52 (by decide) (by omega))) (hA.sh.frame (f3 56 (by decide) (by omega))) (hA.tp.frame (f3 1 (by decide) (by omega)) (f3 2 (by decide) (by omega))), fun c hc => f3 c (by omega) (by omega)⟩
  · simp only [fUndo]
    rw [zif_f c1]
    exact ⟨rfl, AR.rf hA⟩
theorem sbit_or : ∀ u : Fin 4, ∀ k : Fin 2, (0 ≤ zor (u.1 : Int) (zshl 1 (k.1 : Int)) ∧ zor (u.1 : Int) (zshl 1 (k.1 : Int)) ≤ 3) ∧ ∀ j : Fin 2, (zand (zshr (zor (u.1 : Int) (zshl 1 (k.1 : Int))) (j.1 : Int)) 1 = 1 ↔ zand (zshr (u.1 : Int) (j.1 : Int)) 1 = 1 ∨ j.1 = k.1) ∧ (zand (zshr (u.1 : Int) (j.1 : Int)) 1 = 0 ∨ zand (zshr (u.1 : Int) (j.1 : Int)) 1 = 1) := by decide +kernel
theorem shf_or {u k : Int} (hu : 0 ≤ u ∧ u ≤ 3) (hk : 0 ≤ k ∧ k < 2) : (0 ≤ zor u (zshl 1 k) ∧ zor u (zshl 1 k) ≤ 3) ∧ ∀ j, 0 ≤ j → j < 2 → (sbit (zor u (zshl 1 k)) j ↔ sbit u j ∨ j = k) := by
  obtain ⟨a, ha⟩ := fin_of (n := 4) (show 0 ≤ u ∧ u < (4 : Nat) by omega)
  obtain ⟨b, hb⟩ := fin_of (n := 2) (show 0 ≤ k ∧ k < (2 : Nat) by omega)
  subst ha hb
  refine ⟨(sbit_or a b).1, fun j j0 j1 => ?_⟩
  obtain ⟨c, hc⟩ := fin_of (n := 2) (show 0 ≤ j ∧ j < (2 : Nat) by omega)
  subst hc
  have h := ((sbit_or a b).2 c).1
  unfold sbit
  rw [h]
  constructor
  · rintro (q | q)
    · exact Or.inl q
    · exact Or.inr (by rw [q])
  · rintro (q | q)
    · exact Or.inl q
    · exact Or.inr (by omega)
theorem shf_01 {u k : Int} (hu : 0 ≤ u ∧ u ≤ 3) (hk : 0 ≤ k ∧ k < 2) : ¬ sbit u k ↔ zand (zshr u k) 1 = 0 := by
  obtain ⟨a, ha⟩ := fin_of (n := 4) (show 0 ≤ u ∧ u < (4 : Nat) by omega)
  obtain ⟨b, hb⟩ := fin_of (n := 2) (show 0 ≤ k ∧ k < (2 : Nat) by omega)
  subst ha hb
  have h := ((sbit_or a b).2 b).2
  unfold sbit
  omega
theorem AI.shf {kd : ZK} {m : ZM} {G : GR} {P : Int → GR} {s : Int} {S : Int → GR} {u : Int} {T : Int → Int} {n : Int} (h : AI kd m G P s S u T n) {k : Int} (h0 : 0 ≤ k) (h1 : k < 2) : m 61 k = 62 + 4 * k ∧ GS kd m (62 + 4 * k) ∧ (sbit u k → CG kd m (62 + 4 * k) (S k) ∧ GOK (S k)) := by
  rcases (show k = 0 ∨ k = 1 by omega) with q | q
  · subst q; exact ⟨h.sv.2.1, h.sv.2.2.2.1, h.s0⟩
  · subst q; exact ⟨h.sv.2.2.1, h.sv.2.2.2.2, h.s1⟩
theorem c_Ap_keep {d : Nat} {kd : ZK} {m : ZM} {G : GR} {P : Int → GR} {s : Int} {S : Int → GR} {u : Int} {T : Int → Int} {n : Int} (hA : AI kd m G P s S u T n) {k : Int} : CtI (d + 2) M_Ap_keep [(2, 0), (0, k)] kd m (fun x m1 => x = (fKeep (G, P, s, S, u, T, n) k).1 ∧ AJ kd m m1 (fKeep (G, P, s, S, u, T, n) k).2) := by
  refine S_Ap_keep ⟨fun c1 => ?_, fun c1 => ⟨fun c2 => ?_, fun c2 => ?_⟩⟩
  · simp only [fKeep]
    rw [zif_t c1]
    exact ⟨rfl, AR.rf hA⟩
  · have hk := hA.shf (k := k) (by omega) c2
    have hz := hA.z
    have hu3 := hA.u3
    simp only [hA.e6, hk.1]
    refine ⟨hA.o, ⟨2, hA.sv.1, by omega, by omega⟩, hA.o, hk.2.1.1, _, c_Game_become hk.2.1 hA.g hA.ok (by omega), ?_⟩
    rintro m3 ⟨g3, f3⟩
    have e0 : m3 0 = m 0 := f3 0 (by omega)
    rw [show m3 0 7 = u by rw [e0]; exact hA.e7]
    have z8 : ∀ v, (zup m3 0 7 v) 0 8 = m 0 8 := fun v => by rw [zup_nj (by decide), e0]
    simp only [z8]
    have zo : ∀ v c, c ≠ 0 → (zup m3 0 7 v) c = m3 c := fun v c hc => zup_off hc
    refine ⟨hA.o, hA.o, hA.o, hA.g.1.1, ?_⟩
    simp only [fKeep]
    rw [zif_f c1, zif_t c2, zo _ _ (by omega), f3 _ (by omega)]
    refine ⟨hA.g.2.1.1, ?_, fun c hc => by rw [zo _ _ (by omega), f3 _ (by omega)]⟩
    have hor := shf_or hu3 (k := k) ⟨by omega, c2⟩
    have e02 : ∀ v j, j ≠ 7 → (zup m3 0 7 v) 0 j = m 0 j := fun v j hj => by rw [zup_nj hj, e0]
    have e67 : ∀ v c, 69 < c ∨ c < 62 → c ≠ 0 → (zup m3 0 7 v) c = m c := fun v c hc h0 => by rw [zo _ _ h0, f3 _ (by omega)]
    have hsk : ∀ v j, 0 ≤ j → j < 2 → GS kd (zup m3 0 7 v) (62 + 4 * j) ∧ (sbit (zor u (zshl 1 k)) j → CG kd (zup m3 0 7 v) (62 + 4 * j) (putS S k G j) ∧ GOK (putS S k G j)) := fun v j j0 j1 => by
      rcases Classical.em (j = k) with q | q
      · subst q
        refine ⟨g3.1.frame (zo _ _ (by omega)), fun _ => ?_⟩
        rw [show putS S j G j = G from if_pos rfl]
        exact ⟨g3.frame (fun a a1 a2 => zo _ _ (by omega)), hA.ok⟩
      · have hj := hA.shf (k := j) j0 j1
        refine ⟨hj.2.1.frame (by rw [zo _ _ (by omega), f3 _ (by omega)]), fun hb => ?_⟩
        rw [show putS S k G j = S j from if_neg q]
        have hc := hj.2.2 (((hor.2 j j0 j1).1 hb).resolve_right q)
        exact ⟨hc.1.frame (fun a a1 a2 => by rw [zo _ _ (by omega), f3 _ (by omega)]), hc.2⟩
    generalize hv : zor u (zshl 1 k) = v at *
    refine ⟨?_, ⟨?_, hA.ok⟩, ?_, ?_, ⟨?_, ?_, ?_, hA.sc⟩, ?_, ⟨hA.sv.1, ?_, ?_, (hsk v 0 (by decide) (by decide)).1, (hsk v 1 (by decide) (by decide)).1⟩, hor.1, (hsk v 0 (by decide) (by decide)).2, (hsk v 1 (by decide) (by decide)).2⟩
    · rw [e02 _ 0 (by decide), e02 _ 1 (by decide), e02 _ 2 (by decide), e02 _ 3 (by decide), e02 _ 4 (by decide), e02 _ 5 (by decide), e02 _ 6 (by decide), e02 _ 8 (by decide), e02 _ 9 (by decide), zup_self]
      exact ⟨hA.1.1, hA.1.2.1, rfl, hA.1.2.2.2⟩
    · rw [e02 _ 8 (by decide)]; exact hA.g.frame (fun a a1 a2 => e67 _ _ (by omega) (by omega))
    · rw [e02 _ 9 (by decide)]; exact hA.sp.frame (e67 _ _ (by omega) (by omega))
    · exact hA.pc.frame (fun c c1 c2 => e67 _ _ (by omega) (by omega))
    · exact hA.tb.frame (e67 _ _ (by omega) (by omega))
    · exact hA.du.frame (e67 _ _ (by omega) (by omega))
    · exact hA.sh.frame (e67 _ _ (by omega) (by omega))
    · exact hA.tp.frame (e67 _ _ (by omega) (by omega)) (e67 _ _ (by omega) (by omega))
    · rw [e67 _ 61 (by omega) (by omega)]; exact hA.sv.2.1
    · rw [e67 _ 61 (by omega) (by omega)]; exact hA.sv.2.2.1
  · simp only [fKeep]
    rw [zif_f c1, zif_f c2]
    exact ⟨rfl, AR.rf hA⟩
theorem c_Ap_back {d : Nat} {kd : ZK} {m : ZM} {G : GR} {P : Int → GR} {s : Int} {S : Int → GR} {u : Int} {T : Int → Int} {n : Int} (hA : AI kd m G P s S u T n) {k : Int} : CtI (d + 2) M_Ap_back [(2, 0), (0, k)] kd m (fun x m1 => x = (fBack (G, P, s, S, u, T, n) k).1 ∧ AJ kd m m1 (fBack (G, P, s, S, u, T, n) k).2) := by
  refine S_Ap_back ⟨fun c1 => ?_, fun c1 => ⟨fun c2 => ?_, fun c2 => ?_⟩⟩
  · simp only [fBack]
    rw [zif_t c1]
    exact ⟨rfl, AR.rf hA⟩
  · have hk := hA.shf (k := k) (by omega) c2
    have hz := hA.z
    have hb := shf_01 hA.u3 (k := k) ⟨by omega, c2⟩
    simp only [hA.e6, hA.e7, hk.1]
    refine ⟨hA.o, fun c3 => ?_, fun c3 => ?_⟩
    · have hs : sbit u k := Classical.byContradiction fun hn => c3 (hb.1 hn)
      have hS := hk.2.2 hs
      refine ⟨hA.o, hA.o, ⟨2, hA.sv.1, by omega, by omega⟩, hA.g.1.1, _, c_Game_become hA.g.1 hS.1 hS.2 (by omega), ?_⟩
      rintro m3 ⟨g3, f3⟩
      have a3 := (AR.rf hA).gm g3 hS.2 f3
      simp only [a3.1.e1]
      refine ⟨hA.o, a3.1.pc.1.1, _, c_Past_forget a3.1.pc, ?_⟩
      rintro m6 ⟨p6, f6⟩
      have a6 := a3.act p6 (fun c hc => f6 c (by omega))
      refine ⟨hA.o, a6.1.g.1.1, ?_⟩
      simp only [fBack]
      rw [zif_f c1, zif_t c2, zif_t hs]
      exact ⟨a6.1.g.2.1.1, a6⟩
    · simp only [fBack]
      rw [zif_f c1, zif_t c2, zif_f (hb.2 (Classical.not_not.1 c3))]
      exact ⟨rfl, AR.rf hA⟩
  · simp only [fBack]
    rw [zif_f c1, zif_f c2]
    exact ⟨rfl, AR.rf hA⟩
theorem c_Ap_feed {d : Nat} {kd : ZK} {m : ZM} {G : GR} {P : Int → GR} {s : Int} {S : Int → GR} {u : Int} {T : Int → Int} {n : Int} (hA : AI kd m G P s S u T n) {a b c e f : Int} : CtI (d + 2) M_Ap_feed [(2, 0), (0, a), (0, b), (0, c), (0, e), (0, f)] kd m (fun zz m1 => zz = (fFeed (G, P, s, S, u, T, n) a b c e f).1 ∧ AJ kd m m1 (fFeed (G, P, s, S, u, T, n) a b c e f).2) := by
  have h0 := AR.rf hA
  have hok := hA.ok.1
  have hq0 : nQ G 0 = G 0 := rfl
  have hq1 : nQ G 1 = G 1 := rfl
  have ha0 : nA G 0 = G 2 := rfl
  have ha1 : nA G 1 = G 3 := rfl
  refine S_Ap_feed ?_
  try simp only [h0.1.e0, h0.1.e1, h0.1.e2, h0.1.e3, h0.1.e4, h0.1.e5, h0.1.e6]
  refine ⟨hA.o, ?_⟩
  refine ⟨h0.1.tp.1, _, c_Tape_hasRoomForFive h0.1.tp, ?_⟩
  rintro _ _ ⟨rfl, rfl⟩
  try simp only [h0.1.e0, h0.1.e1, h0.1.e2, h0.1.e3, h0.1.e4, h0.1.e5, h0.1.e6]
  refine ⟨fun c1 => ?_, fun c1 => ?_⟩
  · replace c1 := zb_ne0.1 c1
    refine ⟨hA.o, ?_⟩
    refine ⟨h0.1.tp.1, _, c_Tape_addNumber h0.1.tp (by omega), ?_⟩
    rintro m6 ⟨t6, f6⟩
    have a6 := h0.tx t6 f6
    try simp only [a6.1.e0, a6.1.e1, a6.1.e2, a6.1.e3, a6.1.e4, a6.1.e5, a6.1.e6]
    refine ⟨hA.o, ?_⟩
    refine ⟨a6.1.tp.1, _, c_Tape_addNumber a6.1.tp (by omega), ?_⟩
    rintro m9 ⟨t9, f9⟩
    have a9 := a6.tx t9 f9
    try simp only [a9.1.e0, a9.1.e1, a9.1.e2, a9.1.e3, a9.1.e4, a9.1.e5, a9.1.e6]
    refine ⟨hA.o, ?_⟩
    refine ⟨a9.1.tp.1, _, c_Tape_addNumber a9.1.tp (by omega), ?_⟩
    rintro m12 ⟨t12, f12⟩
    have a12 := a9.tx t12 f12
    try simp only [a12.1.e0, a12.1.e1, a12.1.e2, a12.1.e3, a12.1.e4, a12.1.e5, a12.1.e6]
    refine ⟨hA.o, ?_⟩
    refine ⟨a12.1.tp.1, _, c_Tape_addNumber a12.1.tp (by omega), ?_⟩
    rintro m15 ⟨t15, f15⟩
    have a15 := a12.tx t15 f15
    try simp only [a15.1.e0, a15.1.e1, a15.1.e2, a15.1.e3, a15.1.e4, a15.1.e5, a15.1.e6]
    refine ⟨hA.o, ?_⟩
    refine ⟨a15.1.tp.1, _, c_Tape_addNumber a15.1.tp (by omega), ?_⟩
    rintro m18 ⟨t18, f18⟩
    have a18 := a15.tx t18 f18
    try simp only [a18.1.e0, a18.1.e1, a18.1.e2, a18.1.e3, a18.1.e4, a18.1.e5, a18.1.e6]
    refine ⟨hA.o, a18.1.tp.1, ?_⟩
    simp only [fFeed]
    rw [zif_t c1]
    refine ⟨by rw [a18.1.tp.2.2.2.1]; omega, ?_⟩
    have hn : n + 4 + 4 + 4 + 4 + 4 = n + 20 := by omega
    rw [hn, show n + 4 + 4 = n + 8 by omega, show n + 8 + 4 = n + 12 by omega, show n + 12 + 4 = n + 16 by omega] at a18
    exact a18
  · replace c1 := zb_eq0.1 (Classical.not_not.1 c1)
    simp only [fFeed]
    rw [zif_f c1]
    exact ⟨rfl, h0⟩
theorem TP.len {kd : ZK} {m : ZM} {T : Int → Int} {n k : Int} (h : TP kd m T n) (h0 : 0 ≤ k) (h1 : k ≤ n) : TP kd (zup m 1 1 k) T k := by
  obtain ⟨a, b, c, e, f, g⟩ := h
  refine ⟨a, by rw [zup_nj (by decide)]; exact b, c, zup_self, by omega, fun i i0 i1 => ?_⟩
  rw [zup_off (by decide)]
  exact g i i0 (by omega)
theorem c_Ap_end {d : Nat} {kd : ZK} {m : ZM} {G : GR} {P : Int → GR} {s : Int} {S : Int → GR} {u : Int} {T : Int → Int} {n : Int} (hA : AI kd m G P s S u T n) {k : Int} : CtI (d + 1) M_Ap_end [(2, 0), (0, k)] kd m (fun x m1 => x = (fEnd (G, P, s, S, u, T, n) k).1 ∧ AJ kd m m1 (fEnd (G, P, s, S, u, T, n) k).2) := by
  refine S_Ap_end ?_
  simp only [hA.e0, hA.tp.2.2.2.1]
  refine ⟨fun c1 => ?_, fun c1 => ⟨hA.o, hA.tp.1, fun c2 => ⟨hA.o, hA.tp.1, ?_⟩, fun c2 => ?_⟩⟩
  · simp only [fEnd]
    rw [zif_t c1]
    exact ⟨rfl, AR.rf hA⟩
  · simp only [fEnd]
    rw [zif_f c1, zif_t c2]
    exact ⟨rfl, (AR.rf hA).tx (hA.tp.len (by omega) c2) (fun c c3 c4 => zup_off c3)⟩
  · simp only [fEnd]
    rw [zif_f c1, zif_f c2]
    exact ⟨rfl, AR.rf hA⟩
theorem c_Ap_tell {d : Nat} {kd : ZK} {m : ZM} {G : GR} {P : Int → GR} {s : Int} {S : Int → GR} {u : Int} {T : Int → Int} {n : Int} (hA : AI kd m G P s S u T n) : CtI (d + 9) M_Ap_tell [(2, 0)] kd m (fun x m1 => ∃ st2, rTell (G, P, s, S, u, T, n) x st2 ∧ AJ kd m m1 st2) := by
  refine S_Ap_tell ?_
  have hz := hA.z
  simp only [hA.e0]
  refine ⟨hA.o, hA.o, hA.tp.1, _, c_Tape_readInto hA.tp hA.sp (by omega), ?_⟩
  rintro x2 m3 ⟨⟨K, hT, hK⟩, hx0, f3, e3, gs3⟩
  have ez : m3 0 = m 0 := f3 0 (by decide) (by omega)
  have e30 : m3 0 0 = 1 := by rw [ez]; exact hA.e0
  have tp3 : TP kd m3 T n := by
    have t := hA.tp
    unfold TP
    rw [e3.1, e3.2, f3 2 (by decide) (by omega)]
    exact t
  have b3 : AR kd m m3 G P s S u T n := ⟨hA.fr ez (fun c c1 c2 => f3 c (by omega) (by omega)) ⟨hA.g.frame (fun a a1 a2 => f3 a (by omega) (by omega)), hA.ok⟩ gs3 (hA.pc.frame (fun c c1 c2 => f3 c (by omega) (by omega))) (hA.tb.frame (f3 45 (by decide) (by omega))) (hA.du.frame (f3 52 (by decide) (by omega))) (hA.sh.frame (f3 56 (by decide) (by omega))) tp3, fun c hc => f3 c (by omega) (by omega)⟩
  have b4 := b3.tx (tp3.len (k := 0) (by decide) tp3.2.2.2.2.1.1) (fun c c3 c4 => zup_off c3)
  simp only [e30]
  refine ⟨hA.o, b3.1.tp.1, fun c1 => ?_, fun c1 => ?_⟩
  · have hk := hK c1
    refine ⟨hA.o, _, c_Ap_takeSpare hA.o, ?_⟩
    rintro m6 h6
    have e9 : (zup m3 1 1 0) 0 9 = m 0 9 := by rw [zup_off (by decide), ez]
    have b6 := b4.sw (K := K) (by rw [e9]; exact hk.1.frame (fun a a1 a2 => zup_off (by omega))) hk.2.1
    rw [← h6] at b6
    simp only [b6.1.e1]
    refine ⟨hA.o, b6.1.pc.1.1, _, c_Past_forget b6.1.pc, ?_⟩
    rintro m9 ⟨p9, f9⟩
    have b9 := b6.act p9 (fun c hc => f9 c (by omega))
    refine ⟨hA.o, b9.1.g.1.1, _, ⟨x2, K, hT, fun _ => ⟨b9.1.g.2.1.1, rfl⟩, fun e => absurd c1 e⟩, b9⟩
  · exact ⟨_, ⟨x2, K, hT, fun e => absurd e c1, fun _ => ⟨rfl, rfl⟩⟩, b4⟩
