/-! THE CLASS: its methods, second: what they answer by a property -/
theorem c_Ap_worth {d : Nat} {kd : ZK} {m : ZM} {G : GR} {P : Int → GR} {s : Int} {S : Int → GR} {u : Int} {T : Int → Int} {n : Int} (hA : AI kd m G P s S u T n) {w : Int} : CtI (d + 21) M_Ap_worth [(2, 0), (0, w)] kd m (fun x m1 => (pWorth G w x) ∧ AR kd m m1 G P s S u T n) := by
  have h0 := AR.rf hA
  have hok := hA.ok.1
  have hq0 : nQ G 0 = G 0 := rfl
  have hq1 : nQ G 1 = G 1 := rfl
  have ha0 : nA G 0 = G 2 := rfl
  have ha1 : nA G 1 = G 3 := rfl
  refine S_Ap_worth ?_
  try simp only [h0.1.e0, h0.1.e1, h0.1.e2, h0.1.e3, h0.1.e4, h0.1.e5, h0.1.e6]
  refine ⟨hA.o, ?_⟩
  refine ⟨h0.1.g.1.1, _, c_Game_isTold h0.1.g, ?_⟩
  rintro _ _ ⟨rfl, rfl⟩
  try simp only [h0.1.e0, h0.1.e1, h0.1.e2, h0.1.e3, h0.1.e4, h0.1.e5, h0.1.e6]
  refine ⟨fun c1 => ?_, fun c1 => ?_⟩
  · replace c1 := zb_ne0.1 c1
    have hto : 0 < G 0 := c1
    refine ⟨fun c0 => ?_, fun c0 => ?_, fun c0 => ?_, fun c0 => ?_, fun c0 => ?_, fun c0 => ?_⟩
    · skip
      refine ⟨(zcs_t c1 ?_), h0⟩
      refine ⟨fun e => ?_, fun e => ?_, fun e => ?_, fun e => ?_, fun e => ?_, fun e => ?_⟩ <;> first | exact absurd e (by omega) | rfl | rfl
    · skip
      refine ⟨hA.o, ?_⟩
      refine ⟨hA.o, _, c_Ap_mostOf hA.o h0.1.e2 h0.1.tb h0.1.g hA.ok hto (by have := h0.1.z; omega), ?_⟩
      rintro x5 m6 ⟨i6, f6⟩
      have a6 := h0.ft f6
      try simp only [a6.1.e0, a6.1.e1, a6.1.e2, a6.1.e3, a6.1.e4, a6.1.e5, a6.1.e6]
      refine ⟨(zcs_t c1 ?_), a6⟩
      refine ⟨fun e => ?_, fun e => ?_, fun e => ?_, fun e => ?_, fun e => ?_, fun e => ?_⟩ <;> first | exact absurd e (by omega) | exact i6 | rfl
    · skip
      refine ⟨hA.o, ?_⟩
      refine ⟨h0.1.g.1.1, _, c_Game_weightTogether h0.1.g hA.ok, ?_⟩
      rintro _ _ ⟨rfl, rfl⟩
      try simp only [h0.1.e0, h0.1.e1, h0.1.e2, h0.1.e3, h0.1.e4, h0.1.e5, h0.1.e6]
      refine ⟨(zcs_t c1 ?_), h0⟩
      refine ⟨fun e => ?_, fun e => ?_, fun e => ?_, fun e => ?_, fun e => ?_, fun e => ?_⟩ <;> first | exact absurd e (by omega) | rfl | rfl
    · skip
      refine ⟨hA.o, hA.o, ?_⟩
      refine ⟨h0.1.t5, _, c_Table_loadPlain h0.1.tb h0.1.g hA.ok hto (by have := h0.1.z; omega) (Or.inl rfl), ?_⟩
      rintro m12 ⟨t12, f12⟩
      have a12 := h0.ft ⟨fun c hc => f12 c (by omega) (by omega), t12.tb⟩
      try simp only [a12.1.e0, a12.1.e1, a12.1.e2, a12.1.e3, a12.1.e4, a12.1.e5, a12.1.e6]
      refine ⟨hA.o, ?_⟩
      refine ⟨a12.1.t5, _, c_Table_leastLow t12 (by have := hA.ok.tA hto (0); omega) (by have := hA.ok.tQ hto (0); omega), ?_⟩
      rintro x14 m15 ⟨i15, f15⟩
      have t15 := t12.frame (m' := m15) (fun k _ => by rw [f15 45 (by decide) (by decide)]) (f15 46 (by decide) (by decide))
      have a15 := a12.ft ⟨fun c hc => f15 c (by omega) (by omega), t15.tb⟩
      try simp only [a15.1.e0, a15.1.e1, a15.1.e2, a15.1.e3, a15.1.e4, a15.1.e5, a15.1.e6]
      refine ⟨(zcs_t c1 ?_), a15⟩
      refine ⟨fun e => ?_, fun e => ?_, fun e => ?_, fun e => ?_, fun e => ?_, fun e => ?_⟩ <;> first | exact absurd e (by omega) | exact i15 | rfl
    · skip
      refine ⟨hA.o, hA.o, ?_⟩
      refine ⟨h0.1.t5, _, c_Table_loadPlain h0.1.tb h0.1.g hA.ok hto (by have := h0.1.z; omega) (Or.inl rfl), ?_⟩
      rintro m18 ⟨t18, f18⟩
      have a18 := h0.ft ⟨fun c hc => f18 c (by omega) (by omega), t18.tb⟩
      try simp only [a18.1.e0, a18.1.e1, a18.1.e2, a18.1.e3, a18.1.e4, a18.1.e5, a18.1.e6]
      refine ⟨hA.o, ?_⟩
      refine ⟨a18.1.t5, _, c_Table_mostLow t18 (by have := hA.ok.tA hto (0); omega) (by have := hA.ok.tQ hto (0); omega), ?_⟩
      rintro x20 m21 ⟨i21, f21⟩
      have t21 := t18.frame (m' := m21) (fun k _ => by rw [f21 45 (by decide) (by decide)]) (f21 46 (by decide) (by decide))
      have a21 := a18.ft ⟨fun c hc => f21 c (by omega) (by omega), t21.tb⟩
      try simp only [a21.1.e0, a21.1.e1, a21.1.e2, a21.1.e3, a21.1.e4, a21.1.e5, a21.1.e6]
      refine ⟨(zcs_t c1 ?_), a21⟩
      refine ⟨fun e => ?_, fun e => ?_, fun e => ?_, fun e => ?_, fun e => ?_, fun e => ?_⟩ <;> first | exact absurd e (by omega) | exact i21 | rfl
    · skip
      refine ⟨hA.o, hA.o, ?_⟩
      refine ⟨h0.1.t5, _, c_Table_loadPlain h0.1.tb h0.1.g hA.ok hto (by have := h0.1.z; omega) (Or.inr rfl), ?_⟩
      rintro m24 ⟨t24, f24⟩
      have a24 := h0.ft ⟨fun c hc => f24 c (by omega) (by omega), t24.tb⟩
      try simp only [a24.1.e0, a24.1.e1, a24.1.e2, a24.1.e3, a24.1.e4, a24.1.e5, a24.1.e6]
      refine ⟨hA.o, ?_⟩
      refine ⟨a24.1.t5, _, c_Table_mostLow t24 (by have := hA.ok.tA hto (1); omega) (by have := hA.ok.tQ hto (1); omega), ?_⟩
      rintro x26 m27 ⟨i27, f27⟩
      have t27 := t24.frame (m' := m27) (fun k _ => by rw [f27 45 (by decide) (by decide)]) (f27 46 (by decide) (by decide))
      have a27 := a24.ft ⟨fun c hc => f27 c (by omega) (by omega), t27.tb⟩
      try simp only [a27.1.e0, a27.1.e1, a27.1.e2, a27.1.e3, a27.1.e4, a27.1.e5, a27.1.e6]
      refine ⟨(zcs_t c1 ?_), a27⟩
      refine ⟨fun e => ?_, fun e => ?_, fun e => ?_, fun e => ?_, fun e => ?_, fun e => ?_⟩ <;> first | exact absurd e (by omega) | exact i27 | rfl
  · replace c1 := zb_eq0.1 (Classical.not_not.1 c1)
    refine ⟨(zcs_f c1 rfl), h0⟩
theorem c_Ap_sure {d : Nat} {kd : ZK} {m : ZM} {G : GR} {P : Int → GR} {s : Int} {S : Int → GR} {u : Int} {T : Int → Int} {n : Int} (hA : AI kd m G P s S u T n) {p : Int} : CtI (d + 7) M_Ap_sure [(2, 0), (0, p)] kd m (fun x m1 => (pSure G p x) ∧ AR kd m m1 G P s S u T n) := by
  have h0 := AR.rf hA
  have hok := hA.ok.1
  have hq0 : nQ G 0 = G 0 := rfl
  have hq1 : nQ G 1 = G 1 := rfl
  have ha0 : nA G 0 = G 2 := rfl
  have ha1 : nA G 1 = G 3 := rfl
  refine S_Ap_sure ?_
  try simp only [h0.1.e0, h0.1.e1, h0.1.e2, h0.1.e3, h0.1.e4, h0.1.e5, h0.1.e6]
  refine ⟨hA.o, ?_⟩
  refine ⟨h0.1.g.1.1, _, c_Game_isTold h0.1.g, ?_⟩
  rintro _ _ ⟨rfl, rfl⟩
  try simp only [h0.1.e0, h0.1.e1, h0.1.e2, h0.1.e3, h0.1.e4, h0.1.e5, h0.1.e6]
  refine ⟨fun c1 => ?_, fun c1 => ?_⟩
  · replace c1 := zb_eq0.1 c1
    refine ⟨(zcs_f c1 rfl), h0⟩
  · replace c1 := zb_ne0.1 c1
    have hto : 0 < G 0 := c1
    refine ⟨_, c_Ap_isPlayer, ?_⟩
    rintro _ _ ⟨rfl, rfl⟩
    try simp only [h0.1.e0, h0.1.e1, h0.1.e2, h0.1.e3, h0.1.e4, h0.1.e5, h0.1.e6]
    refine ⟨fun c2 => ?_, fun c2 => ?_⟩
    · replace c2 := zb_ne0.1 c2
      have hpl := c2
      refine ⟨hA.o, hA.o, ?_⟩
      refine ⟨h0.1.t5, _, c_Table_loadPlain h0.1.tb h0.1.g hA.ok hto (by have := h0.1.z; omega) hpl, ?_⟩
      rintro m9 ⟨t9, f9⟩
      have a9 := h0.ft ⟨fun c hc => f9 c (by omega) (by omega), t9.tb⟩
      try simp only [a9.1.e0, a9.1.e1, a9.1.e2, a9.1.e3, a9.1.e4, a9.1.e5, a9.1.e6]
      refine ⟨hA.o, hA.o, ?_⟩
      refine ⟨a9.1.t5, _, c_Table_mostLow t9 (by have := hA.ok.tA hto (p); omega) (by have := hA.ok.tQ hto (p); omega), ?_⟩
      rintro x11 m12 ⟨i12, f12⟩
      have t12 := t9.frame (m' := m12) (fun k _ => by rw [f12 45 (by decide) (by decide)]) (f12 46 (by decide) (by decide))
      have a12 := a9.ft ⟨fun c hc => f12 c (by omega) (by omega), t12.tb⟩
      try simp only [a12.1.e0, a12.1.e1, a12.1.e2, a12.1.e3, a12.1.e4, a12.1.e5, a12.1.e6]
      subst i12
      refine ⟨a9.1.t5, _, c_Table_firstRowOfLow t12 (by have := hA.ok.tA hto (p); omega) (by have := hA.ok.tQ hto (p); omega), ?_⟩
      rintro x14 m15 ⟨i15, f15⟩
      have t15 := t12.frame (m' := m15) (fun k _ => by rw [f15 45 (by decide) (by decide)]) (f15 46 (by decide) (by decide))
      have a15 := a12.ft ⟨fun c hc => f15 c (by omega) (by omega), t15.tb⟩
      try simp only [a15.1.e0, a15.1.e1, a15.1.e2, a15.1.e3, a15.1.e4, a15.1.e5, a15.1.e6]
      refine ⟨(zcs_t c1 (zcs_t c2 i15)), a15⟩
    · replace c2 := zb_eq0.1 (Classical.not_not.1 c2)
      refine ⟨(zcs_t c1 (zcs_f c2 rfl)), h0⟩
theorem c_Ap_bests {d : Nat} {kd : ZK} {m : ZM} {G : GR} {P : Int → GR} {s : Int} {S : Int → GR} {u : Int} {T : Int → Int} {n : Int} (hA : AI kd m G P s S u T n) : CtL (d + 21) M_Ap_bests [(2, 0)] kd m (fun x m1 => (pBests G x) ∧ AR kd m m1 G P s S u T n) := by
  have h0 := AR.rf hA
  have hok := hA.ok.1
  have hq0 : nQ G 0 = G 0 := rfl
  have hq1 : nQ G 1 = G 1 := rfl
  have ha0 : nA G 0 = G 2 := rfl
  have ha1 : nA G 1 = G 3 := rfl
  refine S_Ap_bests ?_
  try simp only [h0.1.e0, h0.1.e1, h0.1.e2, h0.1.e3, h0.1.e4, h0.1.e5, h0.1.e6]
  refine ⟨hA.o, ?_⟩
  refine ⟨h0.1.g.1.1, _, c_Game_isTold h0.1.g, ?_⟩
  rintro _ _ ⟨rfl, rfl⟩
  try simp only [h0.1.e0, h0.1.e1, h0.1.e2, h0.1.e3, h0.1.e4, h0.1.e5, h0.1.e6]
  refine ⟨fun c1 => ?_, fun c1 => ?_⟩
  · replace c1 := zb_ne0.1 c1
    have hto : 0 < G 0 := c1
    refine ⟨hA.o, ?_⟩
    refine ⟨hA.o, _, c_Ap_mostOf hA.o h0.1.e2 h0.1.tb h0.1.g hA.ok hto (by have := h0.1.z; omega), ?_⟩
    rintro x5 m6 ⟨i6, f6⟩
    have a6 := h0.ft f6
    try simp only [a6.1.e0, a6.1.e1, a6.1.e2, a6.1.e3, a6.1.e4, a6.1.e5, a6.1.e6]
    refine ⟨hA.o, hA.o, ?_⟩
    refine ⟨a6.1.t5, _, c_Table_loadPlain a6.1.tb a6.1.g hA.ok hto (by have := a6.1.z; omega) (Or.inl rfl), ?_⟩
    rintro m9 ⟨t9, f9⟩
    have a9 := a6.ft ⟨fun c hc => f9 c (by omega) (by omega), t9.tb⟩
    try simp only [a9.1.e0, a9.1.e1, a9.1.e2, a9.1.e3, a9.1.e4, a9.1.e5, a9.1.e6]
    refine ⟨hA.o, ?_⟩
    refine ⟨a9.1.t5, _, c_Table_countTops t9 (by have := hA.ok.tA hto (0); omega) (by have := hA.ok.tQ hto (0); omega) (by have := hA.ok.tA hto (1 - 0); omega) (by have := hA.ok.tQ hto (1 - 0); omega), ?_⟩
    rintro x11 m12 ⟨i12, f12⟩
    have t12 := t9.frame (m' := m12) (fun k _ => by rw [f12 45 (by decide) (by decide)]) (f12 46 (by decide) (by decide))
    have a12 := a9.ft ⟨fun c hc => f12 c (by omega) (by omega), t12.tb⟩
    try simp only [a12.1.e0, a12.1.e1, a12.1.e2, a12.1.e3, a12.1.e4, a12.1.e5, a12.1.e6]
    refine ⟨(zcs_t c1 ⟨_, i6, i12⟩), a12⟩
  · replace c1 := zb_eq0.1 (Classical.not_not.1 c1)
    refine ⟨(zcs_f c1 rfl), h0⟩
theorem c_Ap_best {d : Nat} {kd : ZK} {m : ZM} {G : GR} {P : Int → GR} {s : Int} {S : Int → GR} {u : Int} {T : Int → Int} {n : Int} (hA : AI kd m G P s S u T n) {k p : Int} (hz1 : zin32 k) : CtI (d + 21) M_Ap_best [(2, 0), (0, k), (0, p)] kd m (fun x m1 => (pBest G k p x) ∧ AR kd m m1 G P s S u T n) := by
  have h0 := AR.rf hA
  have hok := hA.ok.1
  have hq0 : nQ G 0 = G 0 := rfl
  have hq1 : nQ G 1 = G 1 := rfl
  have ha0 : nA G 0 = G 2 := rfl
  have ha1 : nA G 1 = G 3 := rfl
  unfold zin32 at hz1
  refine S_Ap_best ?_
  try simp only [h0.1.e0, h0.1.e1, h0.1.e2, h0.1.e3, h0.1.e4, h0.1.e5, h0.1.e6]
  refine ⟨hA.o, ?_⟩
  refine ⟨h0.1.g.1.1, _, c_Game_isTold h0.1.g, ?_⟩
  rintro _ _ ⟨rfl, rfl⟩
  try simp only [h0.1.e0, h0.1.e1, h0.1.e2, h0.1.e3, h0.1.e4, h0.1.e5, h0.1.e6]
  refine ⟨fun c1 => ?_, fun c1 => ?_⟩
  · replace c1 := zb_eq0.1 c1
    refine ⟨(zcs_f c1 rfl), h0⟩
  · replace c1 := zb_ne0.1 c1
    have hto : 0 < G 0 := c1
    refine ⟨_, c_Ap_isPlayer, ?_⟩
    rintro _ _ ⟨rfl, rfl⟩
    try simp only [h0.1.e0, h0.1.e1, h0.1.e2, h0.1.e3, h0.1.e4, h0.1.e5, h0.1.e6]
    refine ⟨fun c2 => ?_, fun c2 => ?_⟩
    · replace c2 := zb_eq0.1 c2
      refine ⟨(zcs_t c1 (zcs_f c2 rfl)), h0⟩
    · replace c2 := zb_ne0.1 c2
      refine ⟨fun c3 => ?_, fun c3 => ?_⟩
      · skip
        refine ⟨hA.o, ?_⟩
        refine ⟨hA.o, _, c_Ap_mostOf hA.o h0.1.e2 h0.1.tb h0.1.g hA.ok hto (by have := h0.1.z; omega), ?_⟩
        rintro x8 m9 ⟨i9, f9⟩
        have a9 := h0.ft f9
        try simp only [a9.1.e0, a9.1.e1, a9.1.e2, a9.1.e3, a9.1.e4, a9.1.e5, a9.1.e6]
        refine ⟨hA.o, hA.o, ?_⟩
        refine ⟨a9.1.t5, _, c_Table_loadPlain a9.1.tb a9.1.g hA.ok hto (by have := a9.1.z; omega) (Or.inl rfl), ?_⟩
        rintro m12 ⟨t12, f12⟩
        have a12 := a9.ft ⟨fun c hc => f12 c (by omega) (by omega), t12.tb⟩
        try simp only [a12.1.e0, a12.1.e1, a12.1.e2, a12.1.e3, a12.1.e4, a12.1.e5, a12.1.e6]
        refine ⟨hA.o, ?_⟩
        refine ⟨a12.1.t5, _, c_Table_rowOfTop t12 (by have := hA.ok.tA hto (0); omega) (by have := hA.ok.tQ hto (0); omega) (by have := hA.ok.tA hto (1 - 0); omega) (by have := hA.ok.tQ hto (1 - 0); omega) (by omega), ?_⟩
        rintro x14 m15 ⟨i15, f15⟩
        have a15 := a12.ft ⟨fun c hc => f15 c (by omega) (by omega) (by omega), (t12.frame (m' := m15) (fun k _ => by rw [f15 45 (by decide) (by decide) (by decide)]) (f15 46 (by decide) (by decide) (by decide))).tb⟩
        try simp only [a15.1.e0, a15.1.e1, a15.1.e2, a15.1.e3, a15.1.e4, a15.1.e5, a15.1.e6]
        refine ⟨(zcs_t c1 (zcs_t c2 (zcs_t c3 ⟨_, i9, i15⟩))), a15⟩
      · skip
        refine ⟨(zcs_t c1 (zcs_t c2 (zcs_f c3 rfl))), h0⟩
theorem c_Ap_lost {d : Nat} {kd : ZK} {m : ZM} {G : GR} {P : Int → GR} {s : Int} {S : Int → GR} {u : Int} {T : Int → Int} {n : Int} (hA : AI kd m G P s S u T n) {y z : Int} : CtL (d + 21) M_Ap_lost [(2, 0), (0, y), (0, z)] kd m (fun x m1 => (pLost G y z x) ∧ AR kd m m1 G P s S u T n) := by
  have h0 := AR.rf hA
  have hok := hA.ok.1
  have hq0 : nQ G 0 = G 0 := rfl
  have hq1 : nQ G 1 = G 1 := rfl
  have ha0 : nA G 0 = G 2 := rfl
  have ha1 : nA G 1 = G 3 := rfl
  refine S_Ap_lost ?_
  try simp only [h0.1.e0, h0.1.e1, h0.1.e2, h0.1.e3, h0.1.e4, h0.1.e5, h0.1.e6]
  refine ⟨hA.o, ?_⟩
  refine ⟨h0.1.g.1.1, _, c_Game_hasCell h0.1.g, ?_⟩
  rintro _ _ ⟨rfl, rfl⟩
  try simp only [h0.1.e0, h0.1.e1, h0.1.e2, h0.1.e3, h0.1.e4, h0.1.e5, h0.1.e6]
  refine ⟨fun c1 => ?_, fun c1 => ?_⟩
  · replace c1 := zb_ne0.1 c1
    have hto : 0 < G 0 := isQ.told c1
    refine ⟨hA.o, ?_⟩
    refine ⟨hA.o, _, c_Ap_mostOf hA.o h0.1.e2 h0.1.tb h0.1.g hA.ok hto (by have := h0.1.z; omega), ?_⟩
    rintro x5 m6 ⟨i6, f6⟩
    have a6 := h0.ft f6
    try simp only [a6.1.e0, a6.1.e1, a6.1.e2, a6.1.e3, a6.1.e4, a6.1.e5, a6.1.e6]
    refine ⟨hA.o, hA.o, ?_⟩
    refine ⟨a6.1.t5, _, c_Table_loadPlain a6.1.tb a6.1.g hA.ok hto (by have := a6.1.z; omega) (Or.inl rfl), ?_⟩
    rintro m9 ⟨t9, f9⟩
    have a9 := a6.ft ⟨fun c hc => f9 c (by omega) (by omega), t9.tb⟩
    try simp only [a9.1.e0, a9.1.e1, a9.1.e2, a9.1.e3, a9.1.e4, a9.1.e5, a9.1.e6]
    refine ⟨hA.o, hA.o, ?_⟩
    refine ⟨a9.1.t5, _, c_Table_countTopsLosing t9 (by have := hA.ok.tA hto (0); omega) (by have := hA.ok.tQ hto (0); omega) (by have := hA.ok.tA hto (1 - 0); omega) (by have := hA.ok.tQ hto (1 - 0); omega) a9.1.g hA.ok (by have := a9.1.z; omega) ⟨rfl, rfl, rfl, rfl⟩ c1.1.2 c1.2.2, ?_⟩
    rintro x11 m12 ⟨i12, f12⟩
    have a12 := a9.ft ⟨fun c hc => f12 c (by omega) (by omega), (t9.frame (m' := m12) (fun k _ => by rw [f12 45 (by decide) (by decide)]) (f12 46 (by decide) (by decide))).tb⟩
    try simp only [a12.1.e0, a12.1.e1, a12.1.e2, a12.1.e3, a12.1.e4, a12.1.e5, a12.1.e6]
    refine ⟨(zcs_t c1 ⟨_, i6, i12⟩), a12⟩
  · replace c1 := zb_eq0.1 (Classical.not_not.1 c1)
    refine ⟨(zcs_f c1 rfl), h0⟩
theorem sWV_in {G : GR} (ho : GOK G) : 0 ≤ sWV G ∧ sWV G ≤ 3600 := by
  have h0 := ho.1
  have h := zsum_le (C := 720) (f := fun x => zsum (G 1).toNat (fun y => gW G x y * sVat G x y)) (by decide) (fun x => by
    have := zsum_le (C := 144) (f := fun y => gW G x y * sVat G x y) (by decide) (fun y => zmul_in (ho.gW x y) (sVat_in ho x y)) (G 1).toNat
    omega) (G 0).toNat
  unfold sWV
  omega
theorem zdv {a b : Int} (h : 0 ≤ a ∧ a ≤ 3600) (hb : 1 ≤ b) : iw (Int.tdiv a b) = a / b := by
  rw [Int.tdiv_eq_ediv_of_nonneg h.1]
  have h1 := Int.ediv_nonneg h.1 (show 0 ≤ b by omega)
  have h2 := Int.ediv_le_self b h.1
  exact iw_s (by omega) (by omega)
theorem c_Ap_mean {d : Nat} {kd : ZK} {m : ZM} {G : GR} {P : Int → GR} {s : Int} {S : Int → GR} {u : Int} {T : Int → Int} {n : Int} (hA : AI kd m G P s S u T n) {w : Int} : CtL (d + 5) M_Ap_mean [(2, 0), (0, w)] kd m (fun x m1 => (x = aMean G w) ∧ AR kd m m1 G P s S u T n) := by
  have h0 := AR.rf hA
  have hok := hA.ok.1
  have hq0 : nQ G 0 = G 0 := rfl
  have hq1 : nQ G 1 = G 1 := rfl
  have ha0 : nA G 0 = G 2 := rfl
  have ha1 : nA G 1 = G 3 := rfl
  refine S_Ap_mean ?_
  try simp only [h0.1.e0, h0.1.e1, h0.1.e2, h0.1.e3, h0.1.e4, h0.1.e5, h0.1.e6]
  refine ⟨hA.o, ?_⟩
  refine ⟨h0.1.g.1.1, _, c_Game_isTold h0.1.g, ?_⟩
  rintro _ _ ⟨rfl, rfl⟩
  try simp only [h0.1.e0, h0.1.e1, h0.1.e2, h0.1.e3, h0.1.e4, h0.1.e5, h0.1.e6]
  refine ⟨fun c1 => ?_, fun c1 => ?_⟩
  · replace c1 := zb_eq0.1 c1
    replace c1 : ¬ told G := c1
    refine ⟨?_, h0⟩
    rw [aMean, zite_f c1]
  · replace c1 := zb_ne0.1 c1
    replace c1 : told G := c1
    have hto : 0 < G 0 := c1
    refine ⟨fun c2 => ?_, fun c2 => ?_⟩
    · skip
      refine ⟨?_, h0⟩
      rw [aMean, zite_t c1, zite_t c2]
    · skip
      refine ⟨fun c3 => ?_, fun c3 => ?_⟩
      · skip
        have h1 := sWV_in hA.ok
        have h2 := hA.ok.2.1 hto
        have h3 : 4 ≤ G 2 * G 3 ∧ G 2 * G 3 ≤ 16 := by
          rcases (show G 2 = 2 ∨ G 2 = 3 ∨ G 2 = 4 by omega) with q | q | q <;> rw [q] <;> omega
        have h4 := Int.gcd_pos_of_ne_zero_right (sWV G) (show G 2 * G 3 ≠ 0 by omega)
        have h5 := hA.g.2.1
        refine ⟨hA.o, ?_⟩
        refine ⟨h0.1.g.1.1, _, c_Game_weightOfWinningSpots h0.1.g hA.ok, ?_⟩
        rintro _ _ ⟨rfl, rfl⟩
        try simp only [h0.1.e0, h0.1.e1, h0.1.e2, h0.1.e3, h0.1.e4, h0.1.e5, h0.1.e6]
        simp only [h5.2.2.1, h5.2.2.2]
        rw [iw_s (x := G 2 * G 3) (by omega) (by omega)]
        refine ⟨hA.o, h0.1.g.1.1, hA.o, h0.1.g.1.1, ?_⟩
        refine ⟨_, c_Ap_commonDivisor (by omega) (by omega), ?_⟩
        rintro _ _ ⟨rfl, rfl⟩
        try simp only [h0.1.e0, h0.1.e1, h0.1.e2, h0.1.e3, h0.1.e4, h0.1.e5, h0.1.e6]
        refine ⟨fun c4 => ?_, fun c4 => ?_⟩
        · skip
          refine ⟨(by omega), ?_⟩
          refine ⟨?_, h0⟩
          rw [aMean, zite_t c1, zite_f c2, zite_t c3]
          rw [if_neg (show ¬ w = 0 from c4)]
          exact zdv ⟨by omega, by omega⟩ (by omega)
        · skip
          refine ⟨(by omega), ?_⟩
          refine ⟨?_, h0⟩
          rw [aMean, zite_t c1, zite_f c2, zite_t c3]
          rw [if_pos (show w = 0 by omega)]
          exact zdv h1 (by omega)
      · skip
        refine ⟨?_, h0⟩
        rw [aMean, zite_t c1, zite_f c2, zite_f c3]
theorem c_Ap_boxed {d : Nat} {kd : ZK} {m : ZM} {G : GR} {P : Int → GR} {s : Int} {S : Int → GR} {u : Int} {T : Int → Int} {n : Int} (hA : AI kd m G P s S u T n) {w : Int} : CtI (d + 21) M_Ap_boxed [(2, 0), (0, w)] kd m (fun x m1 => (pBoxed G w x) ∧ AR kd m m1 G P s S u T n) := by
  have h0 := AR.rf hA
  have hok := hA.ok.1
  have hq0 : nQ G 0 = G 0 := rfl
  have hq1 : nQ G 1 = G 1 := rfl
  have ha0 : nA G 0 = G 2 := rfl
  have ha1 : nA G 1 = G 3 := rfl
  refine S_Ap_boxed ?_
  try simp only [h0.1.e0, h0.1.e1, h0.1.e2, h0.1.e3, h0.1.e4, h0.1.e5, h0.1.e6]
  refine ⟨hA.o, ?_⟩
  refine ⟨h0.1.g.1.1, _, c_Game_isTold h0.1.g, ?_⟩
  rintro _ _ ⟨rfl, rfl⟩
  try simp only [h0.1.e0, h0.1.e1, h0.1.e2, h0.1.e3, h0.1.e4, h0.1.e5, h0.1.e6]
  refine ⟨fun c1 => ?_, fun c1 => ?_⟩
  · replace c1 := zb_ne0.1 c1
    have hto : 0 < G 0 := c1
    refine ⟨fun c0 => ?_, fun c0 => ?_, fun c0 => ?_, fun c0 => ?_, fun c0 => ?_⟩
    · skip
      refine ⟨(zcs_t c1 ?_), h0⟩
      refine ⟨fun e => ?_, fun e => ?_, fun e => ?_, fun e => ?_, fun e => ?_⟩ <;> first | exact absurd e (by omega) | rfl
    · skip
      refine ⟨hA.o, ?_⟩
      refine ⟨h0.1.g.1.1, _, c_Game_boxWorth h0.1.g hA.ok, ?_⟩
      rintro _ _ ⟨rfl, rfl⟩
      try simp only [h0.1.e0, h0.1.e1, h0.1.e2, h0.1.e3, h0.1.e4, h0.1.e5, h0.1.e6]
      refine ⟨(zcs_t c1 ?_), h0⟩
      refine ⟨fun e => ?_, fun e => ?_, fun e => ?_, fun e => ?_, fun e => ?_⟩ <;> first | exact absurd e (by omega) | rfl
    · skip
      refine ⟨hA.o, ?_⟩
      refine ⟨h0.1.g.1.1, _, c_Game_isWhole h0.1.g hA.ok, ?_⟩
      rintro _ _ ⟨rfl, rfl⟩
      try simp only [h0.1.e0, h0.1.e1, h0.1.e2, h0.1.e3, h0.1.e4, h0.1.e5, h0.1.e6]
      refine ⟨fun c2 => ?_, fun c2 => ?_⟩
      · replace c2 := zb_eq0.1 c2
        refine ⟨(zcs_t c1 ?_), h0⟩
        refine ⟨fun e => ?_, fun e => ?_, fun e => ?_, fun e => ?_, fun e => ?_⟩ <;> first | exact absurd e (by omega) | exact (zb_t c2).symm | exact (zb_f c2).symm
      · replace c2 := zb_ne0.1 c2
        refine ⟨(zcs_t c1 ?_), h0⟩
        refine ⟨fun e => ?_, fun e => ?_, fun e => ?_, fun e => ?_, fun e => ?_⟩ <;> first | exact absurd e (by omega) | exact (zb_t c2).symm | exact (zb_f c2).symm
    · skip
      refine ⟨hA.o, ?_⟩
      refine ⟨h0.1.g.1.1, _, c_Game_signalsTo h0.1.g hA.ok (Or.inl rfl) (hA.ok.tQ hto (1 - 0)).1, ?_⟩
      rintro _ _ ⟨rfl, rfl⟩
      try simp only [h0.1.e0, h0.1.e1, h0.1.e2, h0.1.e3, h0.1.e4, h0.1.e5, h0.1.e6]
      refine ⟨fun c3 => ?_, fun c3 => ?_⟩
      · replace c3 := zb_ne0.1 c3
        refine ⟨(zcs_t c1 ?_), h0⟩
        refine ⟨fun e => ?_, fun e => ?_, fun e => ?_, fun e => ?_, fun e => ?_⟩ <;> first | exact absurd e (by omega) | exact (zb_t (Or.inl c3)).symm
      · replace c3 := zb_eq0.1 (Classical.not_not.1 c3)
        refine ⟨hA.o, ?_⟩
        refine ⟨h0.1.g.1.1, _, c_Game_signalsTo h0.1.g hA.ok (Or.inr rfl) (hA.ok.tQ hto (1 - 1)).1, ?_⟩
        rintro _ _ ⟨rfl, rfl⟩
        try simp only [h0.1.e0, h0.1.e1, h0.1.e2, h0.1.e3, h0.1.e4, h0.1.e5, h0.1.e6]
        refine ⟨fun c4 => ?_, fun c4 => ?_⟩
        · replace c4 := zb_eq0.1 c4
          refine ⟨(zcs_t c1 ?_), h0⟩
          refine ⟨fun e => ?_, fun e => ?_, fun e => ?_, fun e => ?_, fun e => ?_⟩ <;> first | exact absurd e (by omega) | exact (zb_t (Or.inr c4)).symm | exact (zb_f (fun h => h.elim c3 c4)).symm
        · replace c4 := zb_ne0.1 c4
          refine ⟨(zcs_t c1 ?_), h0⟩
          refine ⟨fun e => ?_, fun e => ?_, fun e => ?_, fun e => ?_, fun e => ?_⟩ <;> first | exact absurd e (by omega) | exact (zb_t (Or.inr c4)).symm | exact (zb_f (fun h => h.elim c3 c4)).symm
    · skip
      refine ⟨hA.o, ?_⟩
      refine ⟨h0.1.g.1.1, _, c_Game_boxWorth h0.1.g hA.ok, ?_⟩
      rintro _ _ ⟨rfl, rfl⟩
      try simp only [h0.1.e0, h0.1.e1, h0.1.e2, h0.1.e3, h0.1.e4, h0.1.e5, h0.1.e6]
      refine ⟨hA.o, ?_⟩
      refine ⟨hA.o, _, c_Ap_mostOf hA.o h0.1.e2 h0.1.tb h0.1.g hA.ok hto (by have := h0.1.z; omega), ?_⟩
      rintro x20 m21 ⟨i21, f21⟩
      have a21 := h0.ft f21
      try simp only [a21.1.e0, a21.1.e1, a21.1.e2, a21.1.e3, a21.1.e4, a21.1.e5, a21.1.e6]
      refine ⟨fun c5 => ?_, fun c5 => ?_⟩
      · skip
        refine ⟨(zcs_t c1 ?_), a21⟩
        refine ⟨fun e => ?_, fun e => ?_, fun e => ?_, fun e => ?_, fun e => ?_⟩ <;> first | exact absurd e (by omega) | exact ⟨_, i21, (zb_f (by have := isMx_in hA.ok i21; rw [iw_s (by omega) (by omega)] at c5; omega)).symm⟩ | exact ⟨_, i21, (zb_t (by have := isMx_in hA.ok i21; rw [iw_s (by omega) (by omega)] at c5; omega)).symm⟩
      · skip
        refine ⟨(zcs_t c1 ?_), a21⟩
        refine ⟨fun e => ?_, fun e => ?_, fun e => ?_, fun e => ?_, fun e => ?_⟩ <;> first | exact absurd e (by omega) | exact ⟨_, i21, (zb_f (by have := isMx_in hA.ok i21; rw [iw_s (by omega) (by omega)] at c5; omega)).symm⟩ | exact ⟨_, i21, (zb_t (by have := isMx_in hA.ok i21; rw [iw_s (by omega) (by omega)] at c5; omega)).symm⟩
  · replace c1 := zb_eq0.1 (Classical.not_not.1 c1)
    refine ⟨(zcs_f c1 rfl), h0⟩
theorem c_Ap_parts {d : Nat} {kd : ZK} {m : ZM} {G : GR} {P : Int → GR} {s : Int} {S : Int → GR} {u : Int} {T : Int → Int} {n : Int} (hA : AI kd m G P s S u T n) {w : Int} : CtI (d + 21) M_Ap_parts [(2, 0), (0, w)] kd m (fun x m1 => (pParts G w x) ∧ AR kd m m1 G P s S u T n) := by
  have h0 := AR.rf hA
  have hok := hA.ok.1
  have hq0 : nQ G 0 = G 0 := rfl
  have hq1 : nQ G 1 = G 1 := rfl
  have ha0 : nA G 0 = G 2 := rfl
  have ha1 : nA G 1 = G 3 := rfl
  refine S_Ap_parts ?_
  try simp only [h0.1.e0, h0.1.e1, h0.1.e2, h0.1.e3, h0.1.e4, h0.1.e5, h0.1.e6]
  refine ⟨hA.o, ?_⟩
  refine ⟨h0.1.g.1.1, _, c_Game_isTold h0.1.g, ?_⟩
  rintro _ _ ⟨rfl, rfl⟩
  try simp only [h0.1.e0, h0.1.e1, h0.1.e2, h0.1.e3, h0.1.e4, h0.1.e5, h0.1.e6]
  refine ⟨fun c1 => ?_, fun c1 => ?_⟩
  · replace c1 := zb_ne0.1 c1
    have hto : 0 < G 0 := c1
    refine ⟨fun c0 => ?_, fun c0 => ?_, fun c0 => ?_, fun c0 => ?_⟩
    · skip
      refine ⟨(zcs_t c1 ?_), h0⟩
      refine ⟨fun e => ?_, fun e => ?_, fun e => ?_, fun e => ?_⟩ <;> first | exact absurd e (by omega) | rfl
    · skip
      refine ⟨hA.o, hA.o, ?_⟩
      refine ⟨h0.1.sh.1, _, c_Shape_partsOf h0.1.sh h0.1.g hA.ok (by have := h0.1.z; omega), ?_⟩
      rintro x5 m6 ⟨i6, f6⟩
      have a6 := h0.wk (fun c hc => f6 c (by omega))
      try simp only [a6.1.e0, a6.1.e1, a6.1.e2, a6.1.e3, a6.1.e4, a6.1.e5, a6.1.e6]
      refine ⟨(zcs_t c1 ?_), a6⟩
      refine ⟨fun e => ?_, fun e => ?_, fun e => ?_, fun e => ?_⟩ <;> first | exact absurd e (by omega) | rfl | exact i6 | exact ⟨_, i12, (zb_t (Classical.not_not.1 c2)).symm⟩ | exact ⟨_, i12, (zb_f c2).symm⟩
    · skip
      refine ⟨hA.o, hA.o, ?_⟩
      refine ⟨h0.1.sh.1, _, c_Shape_greatestPartOf h0.1.sh h0.1.g hA.ok (by have := h0.1.z; omega), ?_⟩
      rintro x8 m9 ⟨i9, f9⟩
      have a9 := h0.wk (fun c hc => f9 c (by omega))
      try simp only [a9.1.e0, a9.1.e1, a9.1.e2, a9.1.e3, a9.1.e4, a9.1.e5, a9.1.e6]
      refine ⟨(zcs_t c1 ?_), a9⟩
      refine ⟨fun e => ?_, fun e => ?_, fun e => ?_, fun e => ?_⟩ <;> first | exact absurd e (by omega) | rfl | exact i9 | exact ⟨_, i12, (zb_t (Classical.not_not.1 c2)).symm⟩ | exact ⟨_, i12, (zb_f c2).symm⟩
    · skip
      refine ⟨hA.o, ?_⟩
      refine ⟨hA.o, _, c_Ap_mostOf hA.o h0.1.e2 h0.1.tb h0.1.g hA.ok hto (by have := h0.1.z; omega), ?_⟩
      rintro x11 m12 ⟨i12, f12⟩
      have a12 := h0.ft f12
      try simp only [a12.1.e0, a12.1.e1, a12.1.e2, a12.1.e3, a12.1.e4, a12.1.e5, a12.1.e6]
      refine ⟨hA.o, ?_⟩
      refine ⟨a12.1.g.1.1, _, c_Game_weightTogether a12.1.g hA.ok, ?_⟩
      rintro _ _ ⟨rfl, rfl⟩
      try simp only [a12.1.e0, a12.1.e1, a12.1.e2, a12.1.e3, a12.1.e4, a12.1.e5, a12.1.e6]
      refine ⟨fun c2 => ?_, fun c2 => ?_⟩
      · skip
        refine ⟨(zcs_t c1 ?_), a12⟩
        refine ⟨fun e => ?_, fun e => ?_, fun e => ?_, fun e => ?_⟩ <;> first | exact absurd e (by omega) | rfl | exact i12 | exact ⟨_, i12, (zb_t (Classical.not_not.1 c2)).symm⟩ | exact ⟨_, i12, (zb_f c2).symm⟩
      · skip
        refine ⟨(zcs_t c1 ?_), a12⟩
        refine ⟨fun e => ?_, fun e => ?_, fun e => ?_, fun e => ?_⟩ <;> first | exact absurd e (by omega) | rfl | exact i12 | exact ⟨_, i12, (zb_t (Classical.not_not.1 c2)).symm⟩ | exact ⟨_, i12, (zb_f c2).symm⟩
  · replace c1 := zb_eq0.1 (Classical.not_not.1 c1)
    refine ⟨(zcs_f c1 rfl), h0⟩
theorem c_Ap_count {d : Nat} {kd : ZK} {m : ZM} {G : GR} {P : Int → GR} {s : Int} {S : Int → GR} {u : Int} {T : Int → Int} {n : Int} (hA : AI kd m G P s S u T n) {w : Int} : CtI (d + 5) M_Ap_count [(2, 0), (0, w)] kd m (fun x m1 => (pCount (G, P, s, S, u, T, n) w x) ∧ AR kd m m1 G P s S u T n) := by
  have h0 := AR.rf hA
  have hok := hA.ok.1
  have hq0 : nQ G 0 = G 0 := rfl
  have hq1 : nQ G 1 = G 1 := rfl
  have ha0 : nA G 0 = G 2 := rfl
  have ha1 : nA G 1 = G 3 := rfl
  refine S_Ap_count ?_
  try simp only [h0.1.e0, h0.1.e1, h0.1.e2, h0.1.e3, h0.1.e4, h0.1.e5, h0.1.e6]
  refine ⟨fun c0 => ?_, fun c0 => ?_, fun c0 => ?_, fun c0 => ?_, fun c0 => ?_, fun c0 => ?_, fun c0 => ?_, fun c0 => ?_, fun c0 => ?_⟩
  · skip
    refine ⟨?_, h0⟩
    refine ⟨fun e => ?_, fun e => ?_, fun e => ?_, fun e => ?_, fun e => ?_, fun e => ?_, fun e => ?_, fun e => ?_, fun e => ?_⟩ <;> first | exact absurd e (by omega) | rfl | exact hA.g.2.1.1 | exact hA.g.2.1.2.1 | exact hA.g.2.1.2.2.1 | exact hA.g.2.1.2.2.2 | exact hA.pc.2.2.2.1.1 | exact hA.tp.2.2.2.1 | exact hA.e7
  · skip
    refine ⟨hA.o, h0.1.g.1.1, ?_⟩
    refine ⟨?_, h0⟩
    refine ⟨fun e => ?_, fun e => ?_, fun e => ?_, fun e => ?_, fun e => ?_, fun e => ?_, fun e => ?_, fun e => ?_, fun e => ?_⟩ <;> first | exact absurd e (by omega) | rfl | exact hA.g.2.1.1 | exact hA.g.2.1.2.1 | exact hA.g.2.1.2.2.1 | exact hA.g.2.1.2.2.2 | exact hA.pc.2.2.2.1.1 | exact hA.tp.2.2.2.1 | exact hA.e7
  · skip
    refine ⟨hA.o, h0.1.g.1.1, ?_⟩
    refine ⟨?_, h0⟩
    refine ⟨fun e => ?_, fun e => ?_, fun e => ?_, fun e => ?_, fun e => ?_, fun e => ?_, fun e => ?_, fun e => ?_, fun e => ?_⟩ <;> first | exact absurd e (by omega) | rfl | exact hA.g.2.1.1 | exact hA.g.2.1.2.1 | exact hA.g.2.1.2.2.1 | exact hA.g.2.1.2.2.2 | exact hA.pc.2.2.2.1.1 | exact hA.tp.2.2.2.1 | exact hA.e7
  · skip
    refine ⟨hA.o, h0.1.g.1.1, ?_⟩
    refine ⟨?_, h0⟩
    refine ⟨fun e => ?_, fun e => ?_, fun e => ?_, fun e => ?_, fun e => ?_, fun e => ?_, fun e => ?_, fun e => ?_, fun e => ?_⟩ <;> first | exact absurd e (by omega) | rfl | exact hA.g.2.1.1 | exact hA.g.2.1.2.1 | exact hA.g.2.1.2.2.1 | exact hA.g.2.1.2.2.2 | exact hA.pc.2.2.2.1.1 | exact hA.tp.2.2.2.1 | exact hA.e7
  · skip
    refine ⟨hA.o, h0.1.g.1.1, ?_⟩
    refine ⟨?_, h0⟩
    refine ⟨fun e => ?_, fun e => ?_, fun e => ?_, fun e => ?_, fun e => ?_, fun e => ?_, fun e => ?_, fun e => ?_, fun e => ?_⟩ <;> first | exact absurd e (by omega) | rfl | exact hA.g.2.1.1 | exact hA.g.2.1.2.1 | exact hA.g.2.1.2.2.1 | exact hA.g.2.1.2.2.2 | exact hA.pc.2.2.2.1.1 | exact hA.tp.2.2.2.1 | exact hA.e7
  · skip
    refine ⟨hA.o, ?_⟩
    refine ⟨h0.1.g.1.1, _, c_Game_winningSpots h0.1.g hA.ok, ?_⟩
    rintro _ _ ⟨rfl, rfl⟩
    try simp only [h0.1.e0, h0.1.e1, h0.1.e2, h0.1.e3, h0.1.e4, h0.1.e5, h0.1.e6]
    refine ⟨?_, h0⟩
    refine ⟨fun e => ?_, fun e => ?_, fun e => ?_, fun e => ?_, fun e => ?_, fun e => ?_, fun e => ?_, fun e => ?_, fun e => ?_⟩ <;> first | exact absurd e (by omega) | rfl | exact hA.g.2.1.1 | exact hA.g.2.1.2.1 | exact hA.g.2.1.2.2.1 | exact hA.g.2.1.2.2.2 | exact hA.pc.2.2.2.1.1 | exact hA.tp.2.2.2.1 | exact hA.e7
  · skip
    refine ⟨hA.o, h0.1.pc.1.1, ?_⟩
    refine ⟨?_, h0⟩
    refine ⟨fun e => ?_, fun e => ?_, fun e => ?_, fun e => ?_, fun e => ?_, fun e => ?_, fun e => ?_, fun e => ?_, fun e => ?_⟩ <;> first | exact absurd e (by omega) | rfl | exact hA.g.2.1.1 | exact hA.g.2.1.2.1 | exact hA.g.2.1.2.2.1 | exact hA.g.2.1.2.2.2 | exact hA.pc.2.2.2.1.1 | exact hA.tp.2.2.2.1 | exact hA.e7
  · skip
    refine ⟨hA.o, h0.1.tp.1, ?_⟩
    refine ⟨?_, h0⟩
    refine ⟨fun e => ?_, fun e => ?_, fun e => ?_, fun e => ?_, fun e => ?_, fun e => ?_, fun e => ?_, fun e => ?_, fun e => ?_⟩ <;> first | exact absurd e (by omega) | rfl | exact hA.g.2.1.1 | exact hA.g.2.1.2.1 | exact hA.g.2.1.2.2.1 | exact hA.g.2.1.2.2.2 | exact hA.pc.2.2.2.1.1 | exact hA.tp.2.2.2.1 | exact hA.e7
  · skip
    refine ⟨hA.o, ?_⟩
    refine ⟨?_, h0⟩
    refine ⟨fun e => ?_, fun e => ?_, fun e => ?_, fun e => ?_, fun e => ?_, fun e => ?_, fun e => ?_, fun e => ?_, fun e => ?_⟩ <;> first | exact absurd e (by omega) | rfl | exact hA.g.2.1.1 | exact hA.g.2.1.2.1 | exact hA.g.2.1.2.2.1 | exact hA.g.2.1.2.2.2 | exact hA.pc.2.2.2.1.1 | exact hA.tp.2.2.2.1 | exact hA.e7
theorem c_Ap_bias {d : Nat} {kd : ZK} {m : ZM} {G : GR} {P : Int → GR} {s : Int} {S : Int → GR} {u : Int} {T : Int → Int} {n : Int} (hA : AI kd m G P s S u T n) {w : Int} : CtI (d + 22) M_Ap_bias [(2, 0), (0, w)] kd m (fun x m1 => (pBias G w x) ∧ AR kd m m1 G P s S u T n) := by
  have h0 := AR.rf hA
  have hok := hA.ok.1
  have hq0 : nQ G 0 = G 0 := rfl
  have hq1 : nQ G 1 = G 1 := rfl
  have ha0 : nA G 0 = G 2 := rfl
  have ha1 : nA G 1 = G 3 := rfl
  refine S_Ap_bias ?_
  try simp only [h0.1.e0, h0.1.e1, h0.1.e2, h0.1.e3, h0.1.e4, h0.1.e5, h0.1.e6]
  refine ⟨hA.o, ?_⟩
  refine ⟨h0.1.g.1.1, _, c_Game_isTold h0.1.g, ?_⟩
  rintro _ _ ⟨rfl, rfl⟩
  try simp only [h0.1.e0, h0.1.e1, h0.1.e2, h0.1.e3, h0.1.e4, h0.1.e5, h0.1.e6]
  refine ⟨fun c1 => ?_, fun c1 => ?_⟩
  · replace c1 := zb_eq0.1 c1
    refine ⟨(zcs_f c1 rfl), h0⟩
  · replace c1 := zb_ne0.1 c1
    have hto : 0 < G 0 := c1
    refine ⟨fun c2 => ?_, fun c2 => ?_⟩
    · skip
      refine ⟨(zcs_t c1 (zcs_t c2 rfl)), h0⟩
    · skip
      refine ⟨fun c3 => ?_, fun c3 => ?_⟩
      · skip
        refine ⟨hA.o, ?_⟩
        refine ⟨h0.1.g.1.1, _, c_Game_isParityGame h0.1.g hA.ok, ?_⟩
        rintro _ _ ⟨rfl, rfl⟩
        try simp only [h0.1.e0, h0.1.e1, h0.1.e2, h0.1.e3, h0.1.e4, h0.1.e5, h0.1.e6]
        refine ⟨fun c4 => ?_, fun c4 => ?_⟩
        · replace c4 := zb_ne0.1 c4
          refine ⟨fun c5 => ?_, fun c5 => ?_⟩
          · skip
            refine ⟨hA.o, ?_⟩
            refine ⟨fun c6 => ?_, fun c6 => ?_⟩
            · skip
              refine ⟨h0.1.g.1.1, _, c_Game_squares h0.1.g hA.ok, ?_⟩
              rintro _ _ ⟨rfl, rfl⟩
              try simp only [h0.1.e0, h0.1.e1, h0.1.e2, h0.1.e3, h0.1.e4, h0.1.e5, h0.1.e6]
              refine ⟨(zcs_t c1 (zcs_f c2 (zcs_t c3 (zcs_t c4 ⟨fun e => ?_, fun e => ?_, fun e => ?_⟩)))), h0⟩
              all_goals first | exact absurd e (by omega) | exact i15 | rfl
            · skip
              refine ⟨h0.1.g.1.1, _, c_Game_squares h0.1.g hA.ok, ?_⟩
              rintro _ _ ⟨rfl, rfl⟩
              try simp only [h0.1.e0, h0.1.e1, h0.1.e2, h0.1.e3, h0.1.e4, h0.1.e5, h0.1.e6]
              refine ⟨(zcs_t c1 (zcs_f c2 (zcs_t c3 (zcs_t c4 ⟨fun e => ?_, fun e => ?_, fun e => ?_⟩)))), h0⟩
              all_goals first | exact absurd e (by omega) | exact i15 | rfl
          · skip
            refine ⟨hA.o, _, c_Ap_mostBias h0.1 hto, ?_⟩
            rintro x14 m15 ⟨i15, a15⟩
            
            refine ⟨(zcs_t c1 (zcs_f c2 (zcs_t c3 (zcs_t c4 ⟨fun e => ?_, fun e => ?_, fun e => ?_⟩)))), a15⟩
            all_goals first | exact absurd e (by omega) | exact i15 | rfl
        · replace c4 := zb_eq0.1 (Classical.not_not.1 c4)
          refine ⟨(zcs_t c1 (zcs_f c2 (zcs_t c3 (zcs_f c4 rfl)))), h0⟩
      · skip
        refine ⟨(zcs_t c1 (zcs_f c2 (zcs_f c3 rfl))), h0⟩
theorem isCl_congr {G : GR} {r s r1 s1 r2 s2 : Int → Int} {t : Int} (h : isCl G r s r1 s1 t) (e : ∀ q, r q = r2 q) (f : ∀ q, s q = s2 q) : isCl G r2 s2 r1 s1 t := by
  have e1 : r = r2 := funext e
  have e2 : s = s2 := funext f
  rw [← e1, ← e2]; exact h
theorem c_Ap_climb {d : Nat} {kd : ZK} {m : ZM} {G : GR} {P : Int → GR} {s : Int} {S : Int → GR} {u : Int} {T : Int → Int} {n : Int} (hA : AI kd m G P s S u T n) {y z w : Int} (hz1 : zin32 y) (hz2 : zin32 z) : CtI (d + 7) M_Ap_climb [(2, 0), (0, y), (0, z), (0, w)] kd m (fun x m1 => (pClimb G y z w x) ∧ AR kd m m1 G P s S u T n) := by
  have h0 := AR.rf hA
  have hok := hA.ok.1
  have hq0 : nQ G 0 = G 0 := rfl
  have hq1 : nQ G 1 = G 1 := rfl
  have ha0 : nA G 0 = G 2 := rfl
  have ha1 : nA G 1 = G 3 := rfl
  refine S_Ap_climb ?_
  try simp only [h0.1.e0, h0.1.e1, h0.1.e2, h0.1.e3, h0.1.e4, h0.1.e5, h0.1.e6]
  refine ⟨hA.o, hA.o, ?_⟩
  refine ⟨h0.1.du.1.1, _, c_Duo_takeBoth h0.1.du h0.1.g hA.ok (by have := h0.1.z; omega) hz1 hz2, ?_⟩
  rintro x2 m3 ⟨i3, f3, r3⟩
  have a3 := h0.wk (fun c hc => f3 c (by omega) (by omega))
  subst i3
  try simp only [a3.1.e0, a3.1.e1, a3.1.e2, a3.1.e3, a3.1.e4, a3.1.e5, a3.1.e6]
  refine ⟨fun c1 => ?_, fun c1 => ?_⟩
  · replace c1 := zb_eq0.1 c1
    refine ⟨(zcs_f c1 rfl), a3⟩
  · replace c1 := zb_ne0.1 c1
    have hto : 0 < G 0 := c1.1.1.1
    have hga : 1 ≤ G 2 ∧ 1 ≤ G 3 := by have := hA.ok.2.1 hto; omega
    have hrr := r3 c1
    have hr1 : isRw G 0 (drow G 0 y) := c1.1.rw (fun q q1 q2 => rfl)
    have hr2 : isRw G 1 (drow G 1 z) := c1.2.rw (fun q q1 q2 => rfl)
    refine ⟨fun c2 => ?_, fun c2 => ?_⟩
    · skip
      refine ⟨(zcs_t c1 (zcs_t c2 rfl)), a3⟩
    · skip
      refine ⟨fun c3 => ?_, fun c3 => ?_⟩
      · skip
        refine ⟨hA.o, hA.o, ?_⟩
        refine ⟨a3.1.du.1.1, _, c_Duo_climbUp a3.1.du a3.1.g hA.ok (by have := a3.1.z; omega) hga hr1 hr2 ⟨fun q q1 q2 => hrr.1 q q1 q2, fun q q1 q2 => hrr.2 q q1 q2⟩, ?_⟩
        rintro x5 m6 ⟨⟨r1, s1, hcl, hw1, hw2, hre⟩, f6⟩
        have a6 := a3.wk (fun c hc => f6 c (by omega))
        have hx := hre.rw hw1 hw2
        try simp only [a6.1.e0, a6.1.e1, a6.1.e2, a6.1.e3, a6.1.e4, a6.1.e5, a6.1.e6]
        refine ⟨fun c0 => ?_, fun c0 => ?_, fun c0 => ?_, fun c0 => ?_⟩
        · skip
          refine ⟨(zcs_t c1 (zcs_f c2 (zcs_t c3 ⟨r1, s1, _, hcl, ?_⟩))), a6⟩
          refine ⟨fun e => ?_, fun e => ?_, fun e => ?_, fun e => ?_⟩ <;> first | exact absurd e (by omega) | rfl | exact wBoth_congr (fun q q1 q2 => hre.1 q q1 q2) (fun q q1 q2 => hre.2 q q1 q2) | exact zhn_congr _ (fun q q1 q2 => hre.1 q q1 (by have : nQ G 0 = G 0 := rfl; omega)) | exact zhn_congr _ (fun q q1 q2 => hre.2 q q1 (by have : nQ G 1 = G 1 := rfl; omega))
        · skip
          refine ⟨hA.o, hA.o, ?_⟩
          refine ⟨a6.1.du.1.1, _, c_Duo_worthBoth a6.1.du a6.1.g hA.ok hx.1 hx.2, ?_⟩
          rintro _ _ ⟨rfl, rfl⟩
          try simp only [a6.1.e0, a6.1.e1, a6.1.e2, a6.1.e3, a6.1.e4, a6.1.e5, a6.1.e6]
          refine ⟨(zcs_t c1 (zcs_f c2 (zcs_t c3 ⟨r1, s1, _, hcl, ?_⟩))), a6⟩
          refine ⟨fun e => ?_, fun e => ?_, fun e => ?_, fun e => ?_⟩ <;> first | exact absurd e (by omega) | rfl | exact wBoth_congr (fun q q1 q2 => hre.1 q q1 q2) (fun q q1 q2 => hre.2 q q1 q2) | exact zhn_congr _ (fun q q1 q2 => hre.1 q q1 (by have : nQ G 0 = G 0 := rfl; omega)) | exact zhn_congr _ (fun q q1 q2 => hre.2 q q1 (by have : nQ G 1 = G 1 := rfl; omega))
        · skip
          refine ⟨hA.o, hA.o, ?_⟩
          refine ⟨a6.1.du.1.1, _, c_Duo_rowOf a6.1.du a6.1.g hA.ok hx.1, ?_⟩
          rintro _ _ ⟨rfl, rfl⟩
          try simp only [a6.1.e0, a6.1.e1, a6.1.e2, a6.1.e3, a6.1.e4, a6.1.e5, a6.1.e6]
          refine ⟨(zcs_t c1 (zcs_f c2 (zcs_t c3 ⟨r1, s1, _, hcl, ?_⟩))), a6⟩
          refine ⟨fun e => ?_, fun e => ?_, fun e => ?_, fun e => ?_⟩ <;> first | exact absurd e (by omega) | rfl | exact wBoth_congr (fun q q1 q2 => hre.1 q q1 q2) (fun q q1 q2 => hre.2 q q1 q2) | exact zhn_congr _ (fun q q1 q2 => hre.1 q q1 (by have : nQ G 0 = G 0 := rfl; omega)) | exact zhn_congr _ (fun q q1 q2 => hre.2 q q1 (by have : nQ G 1 = G 1 := rfl; omega))
        · skip
          refine ⟨hA.o, hA.o, ?_⟩
          refine ⟨a6.1.du.1.1, _, c_Duo_rowOf a6.1.du a6.1.g hA.ok hx.2, ?_⟩
          rintro _ _ ⟨rfl, rfl⟩
          try simp only [a6.1.e0, a6.1.e1, a6.1.e2, a6.1.e3, a6.1.e4, a6.1.e5, a6.1.e6]
          refine ⟨(zcs_t c1 (zcs_f c2 (zcs_t c3 ⟨r1, s1, _, hcl, ?_⟩))), a6⟩
          refine ⟨fun e => ?_, fun e => ?_, fun e => ?_, fun e => ?_⟩ <;> first | exact absurd e (by omega) | rfl | exact wBoth_congr (fun q q1 q2 => hre.1 q q1 q2) (fun q q1 q2 => hre.2 q q1 q2) | exact zhn_congr _ (fun q q1 q2 => hre.1 q q1 (by have : nQ G 0 = G 0 := rfl; omega)) | exact zhn_congr _ (fun q q1 q2 => hre.2 q q1 (by have : nQ G 1 = G 1 := rfl; omega))
      · skip
        refine ⟨(zcs_t c1 (zcs_f c2 (zcs_f c3 rfl))), a3⟩
