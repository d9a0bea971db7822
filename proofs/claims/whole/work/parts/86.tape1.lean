/-! TAPE: reading -/
def TP (kd : ZK) (m : ZM) (T : Int → Int) (n : Int) : Prop := zobj kd 1 6 ∧ m 1 0 = 2 ∧ zarr kd 2 0 400 ∧ m 1 1 = n ∧ (0 ≤ n ∧ n ≤ 400) ∧ ∀ i, 0 ≤ i → i < n → m 2 i = T i ∧ 0 ≤ T i ∧ T i ≤ 255
def TT (m m1 : ZM) (a f : Int) : Prop := (∀ c, c ≠ 1 → m1 c = m c) ∧ m1 1 0 = m 1 0 ∧ m1 1 1 = m 1 1 ∧ m1 1 2 = a ∧ m1 1 3 = f
theorem TP.tt {kd : ZK} {m m1 : ZM} {T : Int → Int} {n a f : Int} (h : TP kd m T n) (k : TT m m1 a f) : TP kd m1 T n := by
  unfold TP
  rw [k.2.1, k.2.2.1, k.1 2 (by decide)]
  exact h
theorem TT.rf {m : ZM} : TT m m (m 1 2) (m 1 3) := ⟨fun _ _ => rfl, rfl, rfl, rfl, rfl⟩
theorem TT.tr {m m1 m2 : ZM} {a f b e : Int} (h : TT m m1 a f) (k : TT m1 m2 b e) : TT m m2 b e := ⟨fun c hc => by rw [k.1 c hc, h.1 c hc], by rw [k.2.1, h.2.1], by rw [k.2.2.1, h.2.2.1], k.2.2.2⟩
theorem TT.at {m m1 : ZM} {a f v : Int} (h : TT m m1 a f) : TT m (zup m1 1 2 v) v f := by
  refine ⟨fun c hc => by rw [zup_off hc]; exact h.1 c hc, ?_, ?_, ?_, ?_⟩
  · rw [zup_at, gup_off (by decide)]; exact h.2.1
  · rw [zup_at, gup_off (by decide)]; exact h.2.2.1
  · rw [zup_at, gup_at]
  · rw [zup_at, gup_off (by decide)]; exact h.2.2.2.2
theorem TT.fl {m m1 : ZM} {a f v : Int} (h : TT m m1 a f) : TT m (zup m1 1 3 v) a v := by
  refine ⟨fun c hc => by rw [zup_off hc]; exact h.1 c hc, ?_, ?_, ?_, ?_⟩
  · rw [zup_at, gup_off (by decide)]; exact h.2.1
  · rw [zup_at, gup_off (by decide)]; exact h.2.2.1
  · rw [zup_at, gup_off (by decide)]; exact h.2.2.2.1
  · rw [zup_at, gup_at]
theorem nmR_f {T : Int → Int} {n lo hi a f : Int} (h : f ≠ 0) : nmR T n lo hi (a, f) = (lo, (a, f)) := if_pos h
theorem nmR_n {T : Int → Int} {n lo hi a : Int} (h : rn (pD_ T) n (rn (pB_ T) n a) = rn (pB_ T) n a) : nmR T n lo hi (a, 0) = (lo, (rn (pB_ T) n a, 8 * rn (pB_ T) n a + 1)) := by
  unfold nmR
  rw [if_neg (fun h9 => h9 rfl), if_pos h]
theorem nmR_o {T : Int → Int} {n lo hi a : Int} (h : rn (pD_ T) n (rn (pB_ T) n a) ≠ rn (pB_ T) n a) (k : nv T n (rn (pB_ T) n a) 0 < lo ∨ hi < nv T n (rn (pB_ T) n a) 0) : nmR T n lo hi (a, 0) = (lo, (rn (pD_ T) n (rn (pB_ T) n a), 8 * rn (pB_ T) n a + 2)) := by
  unfold nmR
  rw [if_neg (fun h9 => h9 rfl), if_neg h, if_pos k]
theorem nmR_v {T : Int → Int} {n lo hi a : Int} (h : rn (pD_ T) n (rn (pB_ T) n a) ≠ rn (pB_ T) n a) (k : lo ≤ nv T n (rn (pB_ T) n a) 0 ∧ nv T n (rn (pB_ T) n a) 0 ≤ hi) : nmR T n lo hi (a, 0) = (nv T n (rn (pB_ T) n a) 0, (rn (pD_ T) n (rn (pB_ T) n a), 0)) := by
  unfold nmR
  rw [if_neg (fun h9 => h9 rfl), if_neg h, if_neg (show ¬ (nv T n (rn (pB_ T) n a) 0 < lo ∨ hi < nv T n (rn (pB_ T) n a) 0) by omega)]
theorem c_Tape_blame {d : Nat} {kd : ZK} {m : ZM} {T : Int → Int} {n a f : Int} {p k : Int} (hT : TP kd m T n) (h2 : m 1 2 = a) (h3 : m 1 3 = f) (hp : 0 ≤ p ∧ p ≤ 400) (hk : 0 ≤ k ∧ k ≤ 7) : CtV (d + 1) M_Tape_blame [(2, 1), (0, p), (0, k)] kd m (fun m1 => TT m m1 a (if f = 0 then 8 * p + k else f)) := by
  have hr := TT.rf (m := m)
  rw [h2, h3] at hr
  refine S_Tape_blame ?_
  rw [h3]
  refine ⟨hT.1, ?_⟩
  refine ⟨fun c1 => ?_, fun c1 => ?_⟩
  · skip
    rw [if_neg (by assumption)]; exact hr
  · skip
    refine ⟨hT.1, ?_⟩
    rw [if_pos (by omega), iw_s (x := 8 * p) (by omega) (by omega), iw_s (by omega) (by omega)]
    exact hr.fl
theorem c_Tape_skipBlanks {d : Nat} {kd : ZK} {m : ZM} {T : Int → Int} {n a f : Int} (hT : TP kd m T n) (h2 : m 1 2 = a) (h3 : m 1 3 = f) (ha : 0 ≤ a ∧ a ≤ n) : CtV (d + 1) M_Tape_skipBlanks [(2, 1)] kd m (fun m1 => TT m m1 (rn (pB_ T) n a) f) := by
  have hr := TT.rf (m := m)
  rw [h2, h3] at hr
  have L0 := zfor1 (n) (fun (i : Int) (mm : ZM) => Ev (d + 1) M_Tape_skipBlanks 0 0 0 [(2, 1)] [] kd mm (zqV kd (fun m1 => TT m m1 (rn (pB_ T) n a) f))) (fun (i : Int) (mm : ZM) => 0 ≤ i ∧ TT m mm i f ∧ rn (pB_ T) n i = rn (pB_ T) n a) (by
    intro i mm hb hI0 KL0
    obtain ⟨hi0, hTT, hR⟩ := hI0
    have hTm := hT.tt hTT
    have p2 := hTT.2.2.2.1
    have p3 := hTT.2.2.2.2
    have hv := hTm.2.2.2.2.2 i hi0
    have p0 := hTm.2.1
    have p1 := hTm.2.2.2.1
    have hn := hTm.2.2.2.2.1
    refine T_Tape_skipBlanks_0 ?_
    try simp only [p0, p1, p2, p3]
    refine ⟨hTm.1, hTm.1, ?_⟩
    refine ⟨fun c1 => ?_, fun c1 => ?_⟩
    · skip
      rw [← hR, rn_stop (fun h => by have := h.2; unfold pB_ at this; first | omega | (have h9 := (hv (by omega)).1; omega))]
      exact hTT
    · skip
      refine ⟨hTm.1, hTm.1, ⟨400, hTm.2.2.1, by omega, by omega⟩, ?_⟩
      refine ⟨fun c2 => ?_, fun c2 => ?_⟩
      · skip
        rw [← hR, rn_stop (fun h => by have := h.2; unfold pB_ at this; first | omega | (have h9 := (hv (by omega)).1; omega))]
        exact hTT
      · skip
        refine ⟨hTm.1, hTm.1, ?_⟩
        rw [iw_s (x := i + 1) (by omega) (by omega)]
        have h9 := (hv (by omega)).1
        have hb9 : pB_ T i := by show T i = 32; omega
        exact KL0 _ (by omega) ⟨by omega, hTT.at, by rw [← hR]; exact (rn_go (by omega) hb9).symm⟩)
  have hTm := hT
  have p2 := h2
  have p3 := h3
  have hv := hT.2.2.2.2.2 a ha.1
  have p0 := hTm.2.1
  have p1 := hTm.2.2.2.1
  have hn := hTm.2.2.2.2.1
  refine S_Tape_skipBlanks ?_
  try simp only [p0, p1, p2, p3]
  refine ⟨hTm.1, hTm.1, ?_⟩
  refine ⟨fun c1 => ?_, fun c1 => ?_⟩
  · skip
    rw [rn_stop (fun h => by have := h.2; unfold pB_ at this; first | omega | (have h9 := (hv (by omega)).1; omega))]
    exact hr
  · skip
    refine ⟨hTm.1, hTm.1, ⟨400, hTm.2.2.1, by omega, by omega⟩, ?_⟩
    refine ⟨fun c2 => ?_, fun c2 => ?_⟩
    · skip
      rw [rn_stop (fun h => by have := h.2; unfold pB_ at this; first | omega | (have h9 := (hv (by omega)).1; omega))]
      exact hr
    · skip
      refine ⟨hTm.1, hTm.1, ?_⟩
      rw [iw_s (x := a + 1) (by omega) (by omega)]
      have h9 := (hv (by omega)).1
      have hb9 : pB_ T a := by show T a = 32; omega
      exact L0 (a + 1) _ (by omega) ⟨by omega, hr.at, (rn_go (by omega) hb9).symm⟩
theorem c_Tape_behindWord {d : Nat} {kd : ZK} {m : ZM} {T : Int → Int} {n a f : Int} (hT : TP kd m T n) (h2 : m 1 2 = a) (h3 : m 1 3 = f) (ha : 0 ≤ a ∧ a ≤ n) : CtI (d + 1) M_Tape_behindWord [(2, 1)] kd m (qE m (rn (pL_ T) n a)) := by
  have hTm := hT
  have p2 := h2
  have p3 := h3
  have p0 := hTm.2.1
  have p1 := hTm.2.2.2.1
  have hn := hTm.2.2.2.2.1
  have L0 := zfor0 (n) (fun (i : Int)  => Ev (d + 1) M_Tape_behindWord 0 0 5 [(2, 1), (0, i)] [] kd m (zqI kd (qE m (rn (pL_ T) n a)))) (fun (i : Int)  => 0 ≤ i ∧ rn (pL_ T) n i = rn (pL_ T) n a) (by
    intro i  hb hI0 KL0
    obtain ⟨hi0, hR⟩ := hI0
    have hv := hT.2.2.2.2.2 i hi0
    refine T_Tape_behindWord_5 ?_
    try simp only [p0, p1, p2, p3]
    refine ⟨hTm.1, ?_⟩
    refine ⟨fun c1 => ?_, fun c1 => ?_⟩
    · skip
      refine ⟨?_, rfl⟩
      rw [← hR, rn_stop (fun h => by have := h.2; unfold pL_ at this; first | omega | (have h9 := (hv (by omega)).1; omega))]
    · skip
      refine ⟨hTm.1, ⟨400, hTm.2.2.1, by omega, by omega⟩, ?_⟩
      refine ⟨fun c2 => ?_, fun c2 => ?_⟩
      · skip
        refine ⟨?_, rfl⟩
        rw [← hR, rn_stop (fun h => by have := h.2; unfold pL_ at this; first | omega | (have h9 := (hv (by omega)).1; omega))]
      · skip
        refine ⟨hTm.1, ⟨400, hTm.2.2.1, by omega, by omega⟩, ?_⟩
        refine ⟨fun c3 => ?_, fun c3 => ?_⟩
        · skip
          refine ⟨?_, rfl⟩
          rw [← hR, rn_stop (fun h => by have := h.2; unfold pL_ at this; first | omega | (have h9 := (hv (by omega)).1; omega))]
        · skip
          rw [iw_s (x := i + 1) (by omega) (by omega)]
          have h9 := (hv (by omega)).1
          have hb9 : pL_ T i := by show 97 ≤ T i ∧ T i ≤ 122; omega
          exact KL0 (by omega) ⟨by omega, by rw [← hR]; exact (rn_go (by omega) hb9).symm⟩)
  refine S_Tape_behindWord ?_
  try simp only [p0, p1, p2, p3]
  refine ⟨hTm.1, ?_⟩
  exact L0 a (by omega) ⟨by omega, rfl⟩
theorem c_Tape_isWord {d : Nat} {kd : ZK} {m : ZM} {T : Int → Int} {n a f : Int} {i b : Int} (hT : TP kd m T n) (h2 : m 1 2 = a) (h3 : m 1 3 = f) (ha : 0 ≤ a ∧ a ≤ b ∧ b ≤ n) (hi : i.toNat < zsN) : CtI (d + 5) M_Tape_isWord [(2, 1), (3, i), (0, b)] kd m (qE m (zb (isW T i a b))) := by
  have hTm := hT
  have p2 := h2
  have p3 := h3
  have hln := zslen_lt _ hi
  have hlp : 0 ≤ zslen i := by unfold zslen; omega
  have p0 := hTm.2.1
  have p1 := hTm.2.2.2.1
  have hn := hTm.2.2.2.2.1
  have L0 := zfor0 (zslen i) (fun (k : Int)  => Ev (d + 5) M_Tape_isWord 0 0 17 [(2, 1), (3, i), zJ, (0, k)] [] kd m (zqI kd (qE m (zb (isW T i a b))))) (fun (k : Int)  => 0 ≤ k ∧ b - a = zslen i ∧ ∀ j, 0 ≤ j → j < k → T (a + j) = zsbyte i j) (by
    intro k  hb hI0 KL0
    obtain ⟨hk0, hbl, hX⟩ := hI0
    have hv := hT.2.2.2.2.2 (a + k) (by omega)
    have ek : iw (a + k) = a + k := iw_s (by omega) (by omega)
    refine T_Tape_isWord_17 ?_
    try simp only [p0, p1, p2, p3]
    try simp only [ek]
    refine ⟨hi, _, c_Str_length hi, ?_⟩
    rintro _ _ ⟨rfl, rfl⟩
    try simp only [p0, p1, p2, p3]
    try simp only [ek]
    refine ⟨fun c1 => ?_, fun c1 => ?_⟩
    · skip
      exact ⟨(zb_t ⟨hbl, fun j j0 j1 => hX j j0 (by omega)⟩).symm, rfl⟩
    · skip
      refine ⟨hTm.1, hTm.1, ⟨400, hTm.2.2.1, by omega, by omega⟩, ?_⟩
      refine ⟨hi, _, c_Str_charAt hi ⟨hk0, by omega⟩, ?_⟩
      rintro _ _ ⟨rfl, rfl⟩
      have h9 := (hv (by omega)).1
      refine ⟨fun c2 => ?_, fun c2 => ?_⟩
      · skip
        rw [iw_s (x := k + 1) (by omega) (by omega)]
        refine KL0 (by omega) ⟨by omega, hbl, fun j j0 j1 => ?_⟩
        rcases (show j = k ∨ j < k by omega) with q | q
        · rw [q]; omega
        · exact hX j j0 q
      · skip
        exact ⟨(zb_f (fun h => by have := h.2 k hk0 (by omega); omega)).symm, rfl⟩)
  refine S_Tape_isWord ?_
  try simp only [p0, p1, p2, p3]
  rw [iw_s (x := b - a) (by omega) (by omega)]
  refine ⟨hTm.1, ?_⟩
  refine ⟨hi, _, c_Str_length hi, ?_⟩
  rintro _ _ ⟨rfl, rfl⟩
  refine ⟨fun c1 => ?_, fun c1 => ?_⟩
  · skip
    exact L0 0 (by omega) ⟨by omega, by omega, fun j j0 j1 => by omega⟩
  · skip
    exact ⟨(zb_f (fun h => absurd h.1 (by assumption))).symm, rfl⟩
theorem c_Tape_kindOfWord {d : Nat} {kd : ZK} {m : ZM} {T : Int → Int} {n a f : Int} {b : Int} (hT : TP kd m T n) (h2 : m 1 2 = a) (h3 : m 1 3 = f) (ha : 0 ≤ a ∧ a ≤ b ∧ b ≤ n) : CtI (d + 6) M_Tape_kindOfWord [(2, 1), (0, b)] kd m (qE m (knd T a b)) := by
  have hw := fun (i : Int) (hi : i.toNat < zsN) => c_Tape_isWord (d := d) hT h2 h3 ha hi
  refine S_Tape_kindOfWord ?_
  refine ⟨hT.1, _, hw 1 (by decide), ?_⟩
  rintro _ _ ⟨rfl, rfl⟩
  refine ⟨fun c1 => ?_, fun c1 => ?_⟩
  · try simp only [zb_eq0, zb_ne0] at c1
    refine ⟨hT.1, _, hw 2 (by decide), ?_⟩
    rintro _ _ ⟨rfl, rfl⟩
    refine ⟨fun c2 => ?_, fun c2 => ?_⟩
    · try simp only [zb_eq0, zb_ne0] at c2
      refine ⟨hT.1, _, hw 3 (by decide), ?_⟩
      rintro _ _ ⟨rfl, rfl⟩
      refine ⟨fun c3 => ?_, fun c3 => ?_⟩
      · try simp only [zb_eq0, zb_ne0] at c3
        refine ⟨hT.1, _, hw 4 (by decide), ?_⟩
        rintro _ _ ⟨rfl, rfl⟩
        refine ⟨fun c4 => ?_, fun c4 => ?_⟩
        · try simp only [zb_eq0, zb_ne0] at c4
          refine ⟨hT.1, _, hw 5 (by decide), ?_⟩
          rintro _ _ ⟨rfl, rfl⟩
          refine ⟨fun c5 => ?_, fun c5 => ?_⟩
          · try simp only [zb_eq0, zb_ne0] at c5
            refine ⟨hT.1, _, hw 6 (by decide), ?_⟩
            rintro _ _ ⟨rfl, rfl⟩
            refine ⟨fun c6 => ?_, fun c6 => ?_⟩
            · try simp only [zb_eq0, zb_ne0] at c6
              refine ⟨hT.1, _, hw 7 (by decide), ?_⟩
              rintro _ _ ⟨rfl, rfl⟩
              refine ⟨fun c7 => ?_, fun c7 => ?_⟩
              · try simp only [zb_eq0, zb_ne0] at c7
                exact ⟨by unfold knd; rw [zite_f (by assumption), zite_f (by assumption), zite_f (by assumption), zite_f (by assumption), zite_f (by assumption), zite_f (by assumption), zite_f (by assumption)], rfl⟩
              · try simp only [zb_eq0, zb_ne0] at c7
                exact ⟨by unfold knd; rw [zite_f (by assumption), zite_f (by assumption), zite_f (by assumption), zite_f (by assumption), zite_f (by assumption), zite_f (by assumption), zite_t (by first | assumption | exact Classical.not_not.1 (by assumption))], rfl⟩
            · try simp only [zb_eq0, zb_ne0] at c6
              exact ⟨by unfold knd; rw [zite_f (by assumption), zite_f (by assumption), zite_f (by assumption), zite_f (by assumption), zite_f (by assumption), zite_t (by first | assumption | exact Classical.not_not.1 (by assumption))], rfl⟩
          · try simp only [zb_eq0, zb_ne0] at c5
            exact ⟨by unfold knd; rw [zite_f (by assumption), zite_f (by assumption), zite_f (by assumption), zite_f (by assumption), zite_t (by first | assumption | exact Classical.not_not.1 (by assumption))], rfl⟩
        · try simp only [zb_eq0, zb_ne0] at c4
          exact ⟨by unfold knd; rw [zite_f (by assumption), zite_f (by assumption), zite_f (by assumption), zite_t (by first | assumption | exact Classical.not_not.1 (by assumption))], rfl⟩
      · try simp only [zb_eq0, zb_ne0] at c3
        exact ⟨by unfold knd; rw [zite_f (by assumption), zite_f (by assumption), zite_t (by first | assumption | exact Classical.not_not.1 (by assumption))], rfl⟩
    · try simp only [zb_eq0, zb_ne0] at c2
      exact ⟨by unfold knd; rw [zite_f (by assumption), zite_t (by first | assumption | exact Classical.not_not.1 (by assumption))], rfl⟩
  · try simp only [zb_eq0, zb_ne0] at c1
    exact ⟨by unfold knd; rw [zite_t (by first | assumption | exact Classical.not_not.1 (by assumption))], rfl⟩
theorem c_Tape_readNumber {d : Nat} {kd : ZK} {m : ZM} {T : Int → Int} {n a f : Int} {lo hi : Int} (hT : TP kd m T n) (h2 : m 1 2 = a) (h3 : m 1 3 = f) (ha : 0 ≤ a ∧ a ≤ n) : CtI (d + 2) M_Tape_readNumber [(2, 1), (0, lo), (0, hi)] kd m (fun x m1 => x = (nmR T n lo hi (a, f)).1 ∧ TT m m1 (nmR T n lo hi (a, f)).2.1 (nmR T n lo hi (a, f)).2.2) := by
  have hr := TT.rf (m := m)
  rw [h2, h3] at hr
  have hTm := hT
  have p2 := h2
  have p3 := h3
  have p0 := hTm.2.1
  have p1 := hTm.2.2.2.1
  have hn := hTm.2.2.2.2.1
  refine S_Tape_readNumber ?_
  try simp only [p0, p1, p2, p3]
  refine ⟨hTm.1, ?_⟩
  refine ⟨fun c1 => ?_, fun c1 => ?_⟩
  · skip
    refine ⟨hTm.1, _, c_Tape_skipBlanks hT h2 h3 ha, ?_⟩
    rintro m3 hS
    have q2 := hS.2.2.2.1
    simp only [q2]
    refine ⟨hTm.1, ?_⟩
    have hf0 : f = 0 := by omega
    rw [hf0] at hS h3 p3 hr ⊢
    have L0 := zfor2 (n) (fun (i : Int) (mm : ZM) (v : Int) => Ev (d + 2) M_Tape_readNumber 0 0 21 [(2, 1), (0, lo), (0, hi), (0, (rn (pB_ T) n a)), (0, v)] [] kd mm (zqI kd (fun x m1 => x = (nmR T n lo hi (a, 0)).1 ∧ TT m m1 (nmR T n lo hi (a, 0)).2.1 (nmR T n lo hi (a, 0)).2.2))) (fun (i : Int) (mm : ZM) (v : Int) => rn (pB_ T) n a ≤ i ∧ (0 ≤ v ∧ v ≤ 1000) ∧ TT m mm i 0 ∧ rn (pD_ T) n i = rn (pD_ T) n (rn (pB_ T) n a) ∧ nv T n i v = nv T n (rn (pB_ T) n a) 0) (by
      intro i mm v hb hI0 KL0
      obtain ⟨hi0, hvb, hTT, hR, hV⟩ := hI0
      have hbr := rn_in (P := pB_ T) ha.2
      have hTm := hT.tt hTT
      have p2 := hTT.2.2.2.1
      have p3 := hTT.2.2.2.2
      have hv := hTm.2.2.2.2.2 i (by omega)
      have p0 := hTm.2.1
      have p1 := hTm.2.2.2.1
      have hn := hTm.2.2.2.2.1
      refine T_Tape_readNumber_21 ?_
      try simp only [p0, p1, p2, p3]
      refine ⟨hTm.1, hTm.1, ?_⟩
      refine ⟨fun c1 => ?_, fun c1 => ?_⟩
      · skip
        have hst : ¬ (i < n ∧ pD_ T i) := fun h => by
          have := h.2
          unfold pD_ at this
          first | omega | (have h9 := (hv (by omega)).1; omega)
        have hc : rn (pD_ T) n (rn (pB_ T) n a) = i := by rw [← hR]; exact rn_stop hst
        have hnv : nv T n (rn (pB_ T) n a) 0 = v := by rw [← hV]; exact nv_stop hst
        refine T_Tape_readNumber_99 ?_
        try simp only [p0, p1, p2, p3]
        refine ⟨hTm.1, ?_⟩
        refine ⟨fun c1 => ?_, fun c1 => ?_⟩
        · skip
          refine ⟨fun c2 => ?_, fun c2 => ?_⟩
          · skip
            refine ⟨hTm.1, _, c_Tape_blame (a := i) (f := 0) hTm p2 p3 ⟨by omega, by omega⟩ ⟨by decide, by decide⟩, ?_⟩
            rintro m3 hbl
            rw [if_pos rfl] at hbl
            first | (rw [nmR_n (by rw [hc]; omega)]; exact ⟨rfl, by have e9 : i = rn (pB_ T) n a := (by omega); rw [e9] at hbl hTT; exact hTT.tr hbl⟩) | (rw [nmR_o (by rw [hc]; omega) (by rw [hnv]; omega)]; exact ⟨rfl, by rw [hc]; exact hTT.tr hbl⟩)
          · skip
            refine ⟨fun c3 => ?_, fun c3 => ?_⟩
            · skip
              rw [nmR_v (by rw [hc]; omega) (by rw [hnv]; omega)]
              exact ⟨hnv.symm, by rw [hc]; exact hTT⟩
            · skip
              refine ⟨hTm.1, _, c_Tape_blame (a := i) (f := 0) hTm p2 p3 ⟨by omega, by omega⟩ ⟨by decide, by decide⟩, ?_⟩
              rintro m6 hbl
              rw [if_pos rfl] at hbl
              first | (rw [nmR_n (by rw [hc]; omega)]; exact ⟨rfl, by have e9 : i = rn (pB_ T) n a := (by omega); rw [e9] at hbl hTT; exact hTT.tr hbl⟩) | (rw [nmR_o (by rw [hc]; omega) (by rw [hnv]; omega)]; exact ⟨rfl, by rw [hc]; exact hTT.tr hbl⟩)
        · skip
          refine ⟨hTm.1, _, c_Tape_blame (a := i) (f := 0) hTm p2 p3 ⟨by omega, by omega⟩ ⟨by decide, by decide⟩, ?_⟩
          rintro m9 hbl
          rw [if_pos rfl] at hbl
          first | (rw [nmR_n (by rw [hc]; omega)]; exact ⟨rfl, by have e9 : i = rn (pB_ T) n a := (by omega); rw [e9] at hbl hTT; exact hTT.tr hbl⟩) | (rw [nmR_o (by rw [hc]; omega) (by rw [hnv]; omega)]; exact ⟨rfl, by rw [hc]; exact hTT.tr hbl⟩)
      · skip
        refine ⟨hTm.1, hTm.1, ⟨400, hTm.2.2.1, by omega, by omega⟩, ?_⟩
        refine ⟨fun c2 => ?_, fun c2 => ?_⟩
        · skip
          have hst : ¬ (i < n ∧ pD_ T i) := fun h => by
            have := h.2
            unfold pD_ at this
            first | omega | (have h9 := (hv (by omega)).1; omega)
          have hc : rn (pD_ T) n (rn (pB_ T) n a) = i := by rw [← hR]; exact rn_stop hst
          have hnv : nv T n (rn (pB_ T) n a) 0 = v := by rw [← hV]; exact nv_stop hst
          refine T_Tape_readNumber_99 ?_
          try simp only [p0, p1, p2, p3]
          refine ⟨hTm.1, ?_⟩
          refine ⟨fun c1 => ?_, fun c1 => ?_⟩
          · skip
            refine ⟨fun c2 => ?_, fun c2 => ?_⟩
            · skip
              refine ⟨hTm.1, _, c_Tape_blame (a := i) (f := 0) hTm p2 p3 ⟨by omega, by omega⟩ ⟨by decide, by decide⟩, ?_⟩
              rintro m3 hbl
              rw [if_pos rfl] at hbl
              first | (rw [nmR_n (by rw [hc]; omega)]; exact ⟨rfl, by have e9 : i = rn (pB_ T) n a := (by omega); rw [e9] at hbl hTT; exact hTT.tr hbl⟩) | (rw [nmR_o (by rw [hc]; omega) (by rw [hnv]; omega)]; exact ⟨rfl, by rw [hc]; exact hTT.tr hbl⟩)
            · skip
              refine ⟨fun c3 => ?_, fun c3 => ?_⟩
              · skip
                rw [nmR_v (by rw [hc]; omega) (by rw [hnv]; omega)]
                exact ⟨hnv.symm, by rw [hc]; exact hTT⟩
              · skip
                refine ⟨hTm.1, _, c_Tape_blame (a := i) (f := 0) hTm p2 p3 ⟨by omega, by omega⟩ ⟨by decide, by decide⟩, ?_⟩
                rintro m6 hbl
                rw [if_pos rfl] at hbl
                first | (rw [nmR_n (by rw [hc]; omega)]; exact ⟨rfl, by have e9 : i = rn (pB_ T) n a := (by omega); rw [e9] at hbl hTT; exact hTT.tr hbl⟩) | (rw [nmR_o (by rw [hc]; omega) (by rw [hnv]; omega)]; exact ⟨rfl, by rw [hc]; exact hTT.tr hbl⟩)
          · skip
            refine ⟨hTm.1, _, c_Tape_blame (a := i) (f := 0) hTm p2 p3 ⟨by omega, by omega⟩ ⟨by decide, by decide⟩, ?_⟩
            rintro m9 hbl
            rw [if_pos rfl] at hbl
            first | (rw [nmR_n (by rw [hc]; omega)]; exact ⟨rfl, by have e9 : i = rn (pB_ T) n a := (by omega); rw [e9] at hbl hTT; exact hTT.tr hbl⟩) | (rw [nmR_o (by rw [hc]; omega) (by rw [hnv]; omega)]; exact ⟨rfl, by rw [hc]; exact hTT.tr hbl⟩)
        · skip
          refine ⟨hTm.1, hTm.1, ⟨400, hTm.2.2.1, by omega, by omega⟩, ?_⟩
          refine ⟨fun c3 => ?_, fun c3 => ?_⟩
          · skip
            have hst : ¬ (i < n ∧ pD_ T i) := fun h => by
              have := h.2
              unfold pD_ at this
              first | omega | (have h9 := (hv (by omega)).1; omega)
            have hc : rn (pD_ T) n (rn (pB_ T) n a) = i := by rw [← hR]; exact rn_stop hst
            have hnv : nv T n (rn (pB_ T) n a) 0 = v := by rw [← hV]; exact nv_stop hst
            refine T_Tape_readNumber_99 ?_
            try simp only [p0, p1, p2, p3]
            refine ⟨hTm.1, ?_⟩
            refine ⟨fun c1 => ?_, fun c1 => ?_⟩
            · skip
              refine ⟨fun c2 => ?_, fun c2 => ?_⟩
              · skip
                refine ⟨hTm.1, _, c_Tape_blame (a := i) (f := 0) hTm p2 p3 ⟨by omega, by omega⟩ ⟨by decide, by decide⟩, ?_⟩
                rintro m3 hbl
                rw [if_pos rfl] at hbl
                first | (rw [nmR_n (by rw [hc]; omega)]; exact ⟨rfl, by have e9 : i = rn (pB_ T) n a := (by omega); rw [e9] at hbl hTT; exact hTT.tr hbl⟩) | (rw [nmR_o (by rw [hc]; omega) (by rw [hnv]; omega)]; exact ⟨rfl, by rw [hc]; exact hTT.tr hbl⟩)
              · skip
                refine ⟨fun c3 => ?_, fun c3 => ?_⟩
                · skip
                  rw [nmR_v (by rw [hc]; omega) (by rw [hnv]; omega)]
                  exact ⟨hnv.symm, by rw [hc]; exact hTT⟩
                · skip
                  refine ⟨hTm.1, _, c_Tape_blame (a := i) (f := 0) hTm p2 p3 ⟨by omega, by omega⟩ ⟨by decide, by decide⟩, ?_⟩
                  rintro m6 hbl
                  rw [if_pos rfl] at hbl
                  first | (rw [nmR_n (by rw [hc]; omega)]; exact ⟨rfl, by have e9 : i = rn (pB_ T) n a := (by omega); rw [e9] at hbl hTT; exact hTT.tr hbl⟩) | (rw [nmR_o (by rw [hc]; omega) (by rw [hnv]; omega)]; exact ⟨rfl, by rw [hc]; exact hTT.tr hbl⟩)
            · skip
              refine ⟨hTm.1, _, c_Tape_blame (a := i) (f := 0) hTm p2 p3 ⟨by omega, by omega⟩ ⟨by decide, by decide⟩, ?_⟩
              rintro m9 hbl
              rw [if_pos rfl] at hbl
              first | (rw [nmR_n (by rw [hc]; omega)]; exact ⟨rfl, by have e9 : i = rn (pB_ T) n a := (by omega); rw [e9] at hbl hTT; exact hTT.tr hbl⟩) | (rw [nmR_o (by rw [hc]; omega) (by rw [hnv]; omega)]; exact ⟨rfl, by rw [hc]; exact hTT.tr hbl⟩)
          · skip
            refine ⟨hTm.1, hTm.1, ⟨400, hTm.2.2.1, by omega, by omega⟩, ?_⟩
            refine ⟨hTm.1, hTm.1, ?_⟩
            have h9 := (hv (by omega)).1
            have hb9 : pD_ T i := by show 48 ≤ T i ∧ T i ≤ 57; omega
            have hd9 : 48 ≤ T i ∧ T i ≤ 57 := hb9
            rw [h9, iw_s (x := i + 1) (by omega) (by omega), iw_s (x := v * 10) (by omega) (by omega), iw_s (x := v * 10 + T i) (by omega) (by omega), iw_s (x := v * 10 + T i - 48) (by omega) (by omega)]
            refine KL0 _ _ (by omega) ⟨by omega, ?_, hTT.at, by rw [← hR]; exact (rn_go (by omega) hb9).symm, by rw [← hV]; exact (nv_go (by omega) hb9).symm⟩
            unfold zmin
            split <;> omega)
    exact L0 (rn (pB_ T) n a) _ 0 ((rn_in ha.2).2) ⟨Int.le_refl _, ⟨by decide, by decide⟩, hS, rfl, rfl⟩
  · skip
    rw [nmR_f (by assumption)]
    exact ⟨rfl, hr⟩
