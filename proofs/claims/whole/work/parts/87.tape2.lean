/-! TAPE, second: parts -/
def TG (kd : ZK) (m : ZM) (g : Int) (G : GR) (m1 : ZM) (r : PS) : Prop := (∀ c, c ≠ 1 → (c < g ∨ g + 3 < c) → m1 c = m c) ∧ (m1 1 0 = m 1 0 ∧ m1 1 1 = m 1 1 ∧ m1 1 2 = r.1.1 ∧ m1 1 3 = r.1.2) ∧ CG kd m1 g r.2 ∧ sGK G r.2
theorem sGK.rf {G : GR} (ho : GOK G) : sGK G G := ⟨ho, rfl, rfl, rfl, rfl⟩
theorem TT.tg {kd : ZK} {m m1 : ZM} {g a f : Int} {G : GR} (h : TT m m1 a f) (hg : CG kd m g G) (ho : GOK G) (hz : 55 < g) : TG kd m g G m1 ((a, f), G) := ⟨fun c c1 _ => h.1 c c1, ⟨h.2.1, h.2.2.1, h.2.2.2.1, h.2.2.2.2⟩, hg.frame (fun e e1 e2 => h.1 e (by omega)), sGK.rf ho⟩
theorem TG.di {kd : ZK} {m m1 m2 : ZM} {g a f : Int} {G K : GR} (h : TT m m1 a f) (hz : 55 < g) (k : DI kd m1 g G m2 K) : TG kd m g G m2 ((a, f), K) := by
  have e1 := k.2.2.2 1 (by omega)
  exact ⟨fun c c1 c2 => by rw [k.2.2.2 c c2]; exact h.1 c c1, ⟨by rw [e1]; exact h.2.1, by rw [e1]; exact h.2.2.1, by rw [e1]; exact h.2.2.2.1, by rw [e1]; exact h.2.2.2.2⟩, k.1, k.2.1, k.2.2.1⟩
theorem TG.tr {kd : ZK} {m m1 m2 : ZM} {g a f : Int} {G : GR} {r : PS} (h : TT m m1 a f) (k : TG kd m1 g G m2 r) : TG kd m g G m2 r := ⟨fun c c1 c2 => by rw [k.1 c c1 c2]; exact h.1 c c1, ⟨by rw [k.2.1.1]; exact h.2.1, by rw [k.2.1.2.1]; exact h.2.2.1, k.2.1.2.2.1, k.2.1.2.2.2⟩, k.2.2⟩
theorem c_Tape_suits {d : Nat} {kd : ZK} {m : ZM} {k a b : Int} (ha : 0 ≤ a ∧ a < 10) (hb : 0 ≤ b ∧ b < 10) : CtI (d + 1) M_Tape_suits [(0, k), (0, a), (0, b)] kd m (qE m (zb (suit k a b))) := by
  refine S_Tape_suits ?_
  rw [iw_s (x := a + b) (by omega) (by omega), tmod2 (by omega)]
  refine ⟨fun c0 => ?_, fun c0 => ?_, fun c0 => ?_, fun c0 => ?_, fun c0 => ?_⟩
  · skip
    first | exact ⟨(zb_f (by unfold suit; omega)).symm, rfl⟩ | exact ⟨(zb_t (by unfold suit; omega)).symm, rfl⟩
  · skip
    refine ⟨fun c1 => ?_, fun c1 => ?_⟩
    · skip
      first | exact ⟨(zb_f (by unfold suit; omega)).symm, rfl⟩ | exact ⟨(zb_t (by unfold suit; omega)).symm, rfl⟩
    · skip
      first | exact ⟨(zb_f (by unfold suit; omega)).symm, rfl⟩ | exact ⟨(zb_t (by unfold suit; omega)).symm, rfl⟩
  · skip
    refine ⟨fun c2 => ?_, fun c2 => ?_⟩
    · skip
      first | exact ⟨(zb_f (by unfold suit; omega)).symm, rfl⟩ | exact ⟨(zb_t (by unfold suit; omega)).symm, rfl⟩
    · skip
      first | exact ⟨(zb_f (by unfold suit; omega)).symm, rfl⟩ | exact ⟨(zb_t (by unfold suit; omega)).symm, rfl⟩
  · skip
    refine ⟨fun c3 => ?_, fun c3 => ?_⟩
    · skip
      first | exact ⟨(zb_f (by unfold suit; omega)).symm, rfl⟩ | exact ⟨(zb_t (by unfold suit; omega)).symm, rfl⟩
    · skip
      first | exact ⟨(zb_f (by unfold suit; omega)).symm, rfl⟩ | exact ⟨(zb_t (by unfold suit; omega)).symm, rfl⟩
  · skip
    refine ⟨fun c4 => ?_, fun c4 => ?_⟩
    · skip
      first | exact ⟨(zb_f (by unfold suit; omega)).symm, rfl⟩ | exact ⟨(zb_t (by unfold suit; omega)).symm, rfl⟩
    · skip
      first | exact ⟨(zb_f (by unfold suit; omega)).symm, rfl⟩ | exact ⟨(zb_t (by unfold suit; omega)).symm, rfl⟩
theorem c_Tape_winWhere {d : Nat} {kd : ZK} {m : ZM} {g : Int} {G : GR} {k x y : Int} (hg : CG kd m g G) (ho : GOK G) (hx : 0 ≤ x ∧ x < G 0) (hy : 0 ≤ y ∧ y < G 1) : CtV (d + 3) M_Tape_winWhere [(2, g), (0, k), (0, x), (0, y)] kd m (fun m1 => DI kd m g G m1 (winW G k x y)) := by
  have h0 := ho.1
  have L0 := zfor2 (G 2) (fun (a : Int) (mm : ZM) (H : GR) => Ev (d + 3) M_Tape_winWhere 0 0 3 [(2, g), (0, k), (0, x), (0, y), (0, a), zJ] [] kd mm (zqV kd (fun m1 => DI kd m g G m1 (winW G k x y)))) (fun (a : Int) (mm : ZM) (H : GR) => 0 ≤ a ∧ DI kd m g G mm H ∧ H = zfold a.toNat (fun a H => zfold (G 3).toNat (fun b K => zitG (suit k a b) (gup K (29 + zS 0 x y a b) 1) K) H) G) (by
    intro a mm H hb hI0 KL0
    obtain ⟨ha0, hDD, hH⟩ := hI0
    have d2 : mm g 2 = G 2 := by rw [hDD.1.2.1.2.2.1, hDD.2.2.1.2.2.1]
    have d3 : mm g 3 = G 3 := by rw [hDD.1.2.1.2.2.2, hDD.2.2.1.2.2.2]
    have L1 := zfor2 (G 3) (fun (b : Int) (mm : ZM) (K : GR) => Ev (d + 3) M_Tape_winWhere 0 0 15 [(2, g), (0, k), (0, x), (0, y), (0, a), (0, b)] [] kd mm (zqV kd (fun m1 => DI kd m g G m1 (winW G k x y)))) (fun (b : Int) (mm : ZM) (K : GR) => (0 ≤ b ∧ a < G 2) ∧ DI kd m g G mm K ∧ K = zfold b.toNat (fun b K => zitG (suit k a b) (gup K (29 + zS 0 x y a b) 1) K) H) (by
      intro b mm K hb hI1 KL1
      obtain ⟨⟨hb0, hal⟩, hDD, hK⟩ := hI1
      have d2 : mm g 2 = G 2 := by rw [hDD.1.2.1.2.2.1, hDD.2.2.1.2.2.1]
      have d3 : mm g 3 = G 3 := by rw [hDD.1.2.1.2.2.2, hDD.2.2.1.2.2.2]
      refine T_Tape_winWhere_15 ?_
      try simp only [d2, d3]
      refine ⟨hDD.1.1.1, ?_⟩
      refine ⟨fun c1 => ?_, fun c1 => ?_⟩
      · skip
        rw [iw_s (x := a + 1) (by omega) (by omega)]
        exact KL0 mm K (by omega) ⟨by omega, hDD, by rw [zfold_1 ha0, ← hH, hK, show b = G 3 by omega]⟩
      · skip
        refine ⟨_, c_Tape_suits ⟨by omega, by omega⟩ ⟨by omega, by omega⟩, ?_⟩
        rintro _ _ ⟨rfl, rfl⟩
        refine ⟨fun c2 => ?_, fun c2 => ?_⟩
        · try simp only [zb_eq0, zb_ne0] at c2
          rw [iw_s (x := b + 1) (by omega) (by omega)]
          have hw : ¬ suit k a b := by assumption
          exact KL1 _ _ (by omega) ⟨⟨by omega, hal⟩, hDD, by rw [zfold_1 hb0, ← hK, zitG_f hw]⟩
        · try simp only [zb_eq0, zb_ne0] at c2
          refine ⟨hDD.1.1.1, ?_⟩
          refine ⟨_, c_Ap_spotOf (by omega) (by omega) (by omega) (by omega), ?_⟩
          rintro _ _ ⟨rfl, rfl⟩
          refine ⟨(hDD.1.1.inV (zS_in (by omega) (by omega) (by omega) (by omega))), ?_⟩
          rw [iw_s (x := b + 1) (by omega) (by omega)]
          have hw : suit k a b := by first | assumption | exact Classical.not_not.1 (by assumption)
          exact KL1 _ _ (by omega) ⟨⟨by omega, hal⟩, hDD.putV (p := 0) (Or.inl rfl) (show 0 ≤ x ∧ x < G 0 by omega) (show 0 ≤ y ∧ y < G 1 by omega) (show 0 ≤ a ∧ a < G 2 by omega) (show 0 ≤ b ∧ b < G 3 by omega) (by decide), by rw [zfold_1 hb0, ← hK, zitG_t hw]⟩)
    refine T_Tape_winWhere_3 ?_
    try simp only [d2, d3]
    refine ⟨hDD.1.1.1, ?_⟩
    refine ⟨fun c1 => ?_, fun c1 => ?_⟩
    · skip
      rw [show a = G 2 by omega] at hH
      rw [hH] at hDD
      exact hDD
    · skip
      exact L1 0 mm H (by omega) ⟨⟨by omega, by omega⟩, hDD, rfl⟩)
  refine S_Tape_winWhere ?_
  exact L0 0 m G (by omega) ⟨by omega, DI.rf hg ho, rfl⟩
theorem c_Tape_readWeight {d : Nat} {kd : ZK} {m : ZM} {g : Int} {G : GR} {T : Int → Int} {n a f : Int} {x y : Int} (hT : TP kd m T n) (h2 : m 1 2 = a) (h3 : m 1 3 = f) (ha : 0 ≤ a ∧ a ≤ n) (hf : 0 ≤ f) (hg : CG kd m g G) (ho : GOK G) (hz : 55 < g) (hx : 0 ≤ x ∧ x < G 0) (hy : 0 ≤ y ∧ y < G 1) : CtV (d + 3) M_Tape_readWeight [(2, 1), (2, g), (0, x), (0, y)] kd m (fun m1 => TG kd m g G m1 (pWt T n G x y (a, f))) := by
  have h0 := ho.1
  have hni := nmR_in (T := T) (n := n) (lo := 0) (hi := 9) (s := (a, f)) ha hf (by decide)
  refine S_Tape_readWeight ?_
  refine ⟨hT.1, _, c_Tape_readNumber hT h2 h3 ha, ?_⟩
  rintro x2 m3 ⟨rfl, hN⟩
  have hg3 : CG kd m3 g G := hg.frame (fun e e1 e2 => hN.1 e (by omega))
  rw [hN.2.2.2.2]
  refine ⟨hT.1, ?_⟩
  refine ⟨fun c1 => ?_, fun c1 => ?_⟩
  · skip
    unfold pWt
    rw [if_neg (by assumption)]
    exact hN.tg hg ho hz
  · skip
    refine ⟨hg3.1.1, ?_⟩
    refine ⟨_, c_Ap_cellOf (by omega) (by omega), ?_⟩
    rintro _ _ ⟨rfl, rfl⟩
    refine ⟨(hg3.1.inW (zC_in (by omega) (by omega))), ?_⟩
    have hp := (DI.rf hg3 ho).putW (p := 0) (Or.inl rfl) (show 0 ≤ x ∧ x < G 0 by omega) (show 0 ≤ y ∧ y < G 1 by omega) hni.1
    unfold pWt
    rw [if_pos (by omega)]
    exact TG.di hN hz hp
theorem c_Tape_readSpot {d : Nat} {kd : ZK} {m : ZM} {g : Int} {G : GR} {T : Int → Int} {n a f : Int} {x y k : Int} (hT : TP kd m T n) (h2 : m 1 2 = a) (h3 : m 1 3 = f) (ha : 0 ≤ a ∧ a ≤ n) (hf : 0 ≤ f) (hg : CG kd m g G) (ho : GOK G) (hz : 55 < g) (h23 : 1 ≤ G 2 ∧ 1 ≤ G 3) (hx : 0 ≤ x ∧ x < G 0) (hy : 0 ≤ y ∧ y < G 1) : CtV (d + 3) M_Tape_readSpot [(2, 1), (2, g), (0, k), (0, x), (0, y)] kd m (fun m1 => TG kd m g G m1 (pSp T n k G x y (a, f))) := by
  have h0 := ho.1
  have hna := nmR_in (T := T) (n := n) (lo := 0) (hi := G 2 - 1) (s := (a, f)) ha hf (by omega)
  obtain ⟨ra, hra⟩ : ∃ r, r = nmR T n 0 (G 2 - 1) (a, f) := ⟨_, rfl⟩
  rw [← hra] at hna
  have hnb := nmR_in (T := T) (n := n) (lo := 0) (hi := G 3 - 1) (s := ra.2) hna.2.1 hna.2.2.1 (by omega)
  obtain ⟨rb, hrb⟩ : ∃ r, r = nmR T n 0 (G 3 - 1) ra.2 := ⟨_, rfl⟩
  rw [← hrb] at hnb
  have g2 : m g 2 = G 2 := hg.2.1.2.2.1
  have key : ∀ (mm : ZM) (rt : Int × Int × Int), rt = pS3 T n k rb.2 → (0 ≤ rt.1 ∧ rt.1 ≤ (if k = 7 then 12 else 1)) → TT m mm rt.2.1 rt.2.2 → Ev (d + 3) M_Tape_readSpot 0 0 43 [(2, 1), (2, g), (0, k), (0, x), (0, y), (0, ra.1), (0, rb.1), zJ, zJ] [(0, rt.1)] kd mm (zqV kd (fun m1 => TG kd m g G m1 (pSp T n k G x y (a, f)))) := by
    intro mm rt hrt hb hTT
    have hgm : CG kd mm g G := hg.frame (fun e e1 e2 => hTT.1 e (by omega))
    have p3 := hTT.2.2.2.2
    have hres : pSp T n k G x y (a, f) = (rt.2, if rt.2.2 = 0 then gup G ((if k = 7 then 429 else 29) + zS 0 x y ra.1 rb.1) rt.1 else G) := by
      rw [hrt, hrb, hra]
      rfl
    refine T_Tape_readSpot_43 ?_
    rw [p3]
    refine ⟨(hT.tt hTT).1, ?_⟩
    refine ⟨fun c1 => ?_, fun c1 => ?_⟩
    · skip
      refine ⟨_, c_Ap_spotOf (by omega) (by omega) (by omega) (by omega), ?_⟩
      rintro _ _ ⟨rfl, rfl⟩
      refine ⟨fun c2 => ?_, fun c2 => ?_⟩
      · skip
        refine ⟨hgm.1.1, (hgm.1.inV (zS_in (by omega) (by omega) (by omega) (by omega))), ?_⟩
        rw [if_neg (by assumption)] at hb
        rw [hres, if_pos (by assumption), if_neg (by assumption)]
        exact TG.di hTT hz ((DI.rf hgm ho).putV (p := 0) (Or.inl rfl) (show 0 ≤ x ∧ x < G 0 by omega) (show 0 ≤ y ∧ y < G 1 by omega) (show 0 ≤ ra.1 ∧ ra.1 < G 2 by omega) (show 0 ≤ rb.1 ∧ rb.1 < G 3 by omega) hb)
      · skip
        refine ⟨hgm.1.1, (hgm.1.inB (zS_in (by omega) (by omega) (by omega) (by omega))), ?_⟩
        have hk7 : k = 7 := Classical.not_not.1 (by assumption)
        rw [if_pos hk7] at hb
        rw [hres, if_pos (by assumption), if_pos hk7]
        exact TG.di hTT hz ((DI.rf hgm ho).putB (p := 0) (Or.inl rfl) (show 0 ≤ x ∧ x < G 0 by omega) (show 0 ≤ y ∧ y < G 1 by omega) (show 0 ≤ ra.1 ∧ ra.1 < G 2 by omega) (show 0 ≤ rb.1 ∧ rb.1 < G 3 by omega) hb)
    · skip
      rw [hres, if_neg (by assumption)]
      exact hTT.tg hg ho hz
  refine S_Tape_readSpot ?_
  rw [g2, iw_s (x := G 2 - 1) (by omega) (by omega)]
  refine ⟨hg.1.1, ?_⟩
  refine ⟨hT.1, _, c_Tape_readNumber hT h2 h3 ha, ?_⟩
  rintro x2 m3 ⟨rfl, hN1⟩
  rw [← hra] at hN1 ⊢
  have hT3 := hT.tt hN1
  have g3 : m3 g 3 = G 3 := by rw [hN1.1 g (by omega)]; exact hg.2.1.2.2.2
  rw [g3, iw_s (x := G 3 - 1) (by omega) (by omega)]
  refine ⟨hg.1.1, ?_⟩
  refine ⟨hT.1, _, c_Tape_readNumber (a := ra.2.1) (f := ra.2.2) hT3 hN1.2.2.2.1 hN1.2.2.2.2 hna.2.1, ?_⟩
  rintro x5 m6 ⟨rfl, hN2⟩
  rw [show (ra.2.1, ra.2.2) = ra.2 from rfl, ← hrb] at hN2 ⊢
  have hN2t := hN1.tr hN2
  have hT6 := hT.tt hN2t
  refine ⟨fun c1 => ?_, fun c1 => ?_⟩
  · skip
    exact key _ (1, rb.2) (by unfold pS3; rw [if_neg (by assumption)]) (by rw [if_neg (by assumption)]; exact ⟨show (0 : Int) ≤ 1 by decide, show (1 : Int) ≤ 1 by decide⟩) hN2t
  · skip
    refine ⟨hT.1, _, c_Tape_readNumber (a := rb.2.1) (f := rb.2.2) hT6 hN2t.2.2.2.1 hN2t.2.2.2.2 hnb.2.1, ?_⟩
    rintro x8 m9 ⟨rfl, hN3⟩
    rw [show (rb.2.1, rb.2.2) = rb.2 from rfl] at hN3 ⊢
    have hnc := nmR_in (T := T) (n := n) (lo := 0) (hi := 12) (s := rb.2) hnb.2.1 hnb.2.2.1 (by decide)
    have hk7 : k = 7 := Classical.not_not.1 (by assumption)
    exact key _ _ (by unfold pS3; rw [if_pos hk7]) (by rw [if_pos hk7]; exact hnc.1) (hN2t.tr hN3)
theorem pPt_n {T : Int → Int} {n a : Int} {G : GR} (h : T a ≠ 59) : pPt T n G a = ((a, 8 * a + 1), G) := if_neg h
theorem pPt_0 {T : Int → Int} {n a : Int} {G : GR} (h : T a = 59) (k : knd T (rn (pB_ T) n (a + 1)) (rn (pL_ T) n (rn (pB_ T) n (a + 1))) = 0) : pPt T n G a = ((rn (pB_ T) n (a + 1), 8 * rn (pB_ T) n (a + 1) + 1), G) := by
  unfold pPt pBd
  rw [if_pos h, if_pos k]
theorem pPt_k {T : Int → Int} {n a : Int} {G : GR} (h : T a = 59) (k : knd T (rn (pB_ T) n (a + 1)) (rn (pL_ T) n (rn (pB_ T) n (a + 1))) ≠ 0) : pPt T n G a = pKd T n (knd T (rn (pB_ T) n (a + 1)) (rn (pL_ T) n (rn (pB_ T) n (a + 1)))) G (rn (pL_ T) n (rn (pB_ T) n (a + 1)), 0) := by
  unfold pPt pBd
  rw [if_pos h, if_neg k]
theorem c_Tape_readPart {d : Nat} {kd : ZK} {m : ZM} {g : Int} {G : GR} {T : Int → Int} {n a : Int} (hT : TP kd m T n) (h2 : m 1 2 = a) (h3 : m 1 3 = 0) (ha : 0 ≤ a ∧ a < n) (hg : CG kd m g G) (ho : GOK G) (hz : 55 < g) (ht : 0 < G 0) : CtV (d + 7) M_Tape_readPart [(2, 1), (2, g)] kd m (fun m1 => TG kd m g G m1 (pPt T n G a)) := by
  have h0 := ho.1
  have htt := ho.2.1 ht
  have hr := TT.rf (m := m)
  rw [h2, h3] at hr
  have hTm := hT
  have p2 := h2
  have p3 := h3
  have hv := (hT.2.2.2.2.2 a ha.1 ha.2).1
  have hra := hr.at (v := a + 1)
  have hr1 := rn_in (P := pB_ T) (n := n) (a := a + 1) (by omega)
  obtain ⟨a1, ha1⟩ : ∃ r, r = rn (pB_ T) n (a + 1) := ⟨_, rfl⟩
  rw [← ha1] at hr1
  have hr2 := rn_in (P := pL_ T) (n := n) (a := a1) (by omega)
  obtain ⟨b, hb⟩ : ∃ r, r = rn (pL_ T) n a1 := ⟨_, rfl⟩
  rw [← hb] at hr2
  obtain ⟨k, hk⟩ : ∃ r, r = knd T a1 b := ⟨_, rfl⟩
  have hnx := nmR_in (T := T) (n := n) (lo := 0) (hi := G 0 - 1) (s := (b, 0)) ⟨by simp only []; omega, by simp only []; omega⟩ (Int.le_refl _) (by omega)
  obtain ⟨rx, hrx⟩ : ∃ r, r = nmR T n 0 (G 0 - 1) (b, 0) := ⟨_, rfl⟩
  rw [← hrx] at hnx
  have hny := nmR_in (T := T) (n := n) (lo := 0) (hi := G 1 - 1) (s := rx.2) hnx.2.1 hnx.2.2.1 (by omega)
  obtain ⟨ry, hry⟩ : ∃ r, r = nmR T n 0 (G 1 - 1) rx.2 := ⟨_, rfl⟩
  rw [← hry] at hny
  have hK : T a = 59 → k ≠ 0 → pPt T n G a = (if k = 1 then pWt T n G rx.1 ry.1 ry.2 else if k = 2 ∨ k = 7 then pSp T n k G rx.1 ry.1 ry.2 else (ry.2, if ry.2.2 = 0 then winW G k rx.1 ry.1 else G)) := fun e1 e2 => by
    rw [pPt_k e1 (by rw [← ha1, ← hb, ← hk]; exact e2), ← ha1, ← hb, ← hk]
    rw [hry, hrx]
    rfl
  have p0 := hTm.2.1
  have p1 := hTm.2.2.2.1
  have hn := hTm.2.2.2.2.1
  refine S_Tape_readPart ?_
  try simp only [p0, p1, p2, p3]
  rw [iw_s (x := a + 1) (by omega) (by omega)]
  refine ⟨hTm.1, hTm.1, ?_⟩
  refine ⟨fun c1 => ?_, fun c1 => ?_⟩
  · skip
    refine ⟨hTm.1, ?_⟩
    refine ⟨hTm.1, _, c_Tape_blame hT h2 h3 ⟨by omega, by omega⟩ ⟨by decide, by decide⟩, ?_⟩
    rintro m3 hbl
    rw [if_pos rfl] at hbl
    exact absurd ha.2 (by omega)
  · skip
    refine ⟨hTm.1, hTm.1, ⟨400, hTm.2.2.1, by omega, by omega⟩, ?_⟩
    refine ⟨fun c2 => ?_, fun c2 => ?_⟩
    · skip
      refine ⟨hTm.1, hTm.1, ?_⟩
      refine ⟨hTm.1, _, c_Tape_skipBlanks (a := a + 1) (f := 0) (hT.tt hra) hra.2.2.2.1 hra.2.2.2.2 ⟨by omega, by omega⟩, ?_⟩
      rintro m6 hS
      rw [← ha1] at hS
      have hSt := hra.tr hS
      have hSb := hSt.at (v := b)
      have gq0 : (zup m6 1 2 b) g 0 = G 0 := by rw [hSb.1 g (by omega)]; exact hg.2.1.1
      have q62 := hSt.2.2.2.1
      refine ⟨hTm.1, _, c_Tape_behindWord (a := a1) (f := 0) (hT.tt hSt) hSt.2.2.2.1 hSt.2.2.2.2 ⟨by omega, by omega⟩, ?_⟩
      rintro _ _ ⟨rfl, rfl⟩
      rw [← hb]
      refine ⟨hTm.1, _, c_Tape_kindOfWord (a := a1) (f := 0) (hT.tt hSt) hSt.2.2.2.1 hSt.2.2.2.2 ⟨by omega, by omega, by omega⟩, ?_⟩
      rintro _ _ ⟨rfl, rfl⟩
      rw [← hk]
      rw [gq0, iw_s (x := G 0 - 1) (by omega) (by omega), q62]
      refine ⟨fun c3 => ?_, fun c3 => ?_⟩
      · skip
        refine ⟨hTm.1, hg.1.1, ?_⟩
        refine ⟨hTm.1, _, c_Tape_readNumber (a := b) (f := 0) (hT.tt hSb) hSb.2.2.2.1 hSb.2.2.2.2 ⟨by omega, by omega⟩, ?_⟩
        rintro x14 m15 ⟨rfl, hN1⟩
        rw [← hrx] at hN1 ⊢
        have hN1t := hSb.tr hN1
        have hg15 : CG kd m15 g G := hg.frame (fun e e1 e2 => hN1t.1 e (by omega))
        have g15 : m15 g 1 = G 1 := hg15.2.1.2.1
        rw [g15, iw_s (x := G 1 - 1) (by omega) (by omega)]
        refine ⟨hg.1.1, ?_⟩
        refine ⟨hTm.1, _, c_Tape_readNumber (a := rx.2.1) (f := rx.2.2) (hT.tt hN1t) hN1t.2.2.2.1 hN1t.2.2.2.2 hnx.2.1, ?_⟩
        rintro x17 m18 ⟨rfl, hN2⟩
        rw [show (rx.2.1, rx.2.2) = rx.2 from rfl, ← hry] at hN2 ⊢
        have hN2t := hN1t.tr hN2
        have hg18 : CG kd m18 g G := hg.frame (fun e e1 e2 => hN2t.1 e (by omega))
        have hT18 := hT.tt hN2t
        have hxx : 0 ≤ rx.1 ∧ rx.1 < G 0 := by omega
        have hyy : 0 ≤ ry.1 ∧ ry.1 < G 1 := by omega
        try rw [hN2.2.2.2.2]
        refine ⟨fun c4 => ?_, fun c4 => ?_⟩
        · skip
          refine ⟨fun c5 => ?_, fun c5 => ?_⟩
          · skip
            refine ⟨hTm.1, _, c_Tape_readSpot (a := ry.2.1) (f := ry.2.2) hT18 hN2t.2.2.2.1 hN2t.2.2.2.2 hny.2.1 hny.2.2.1 hg18 ho hz ⟨by omega, by omega⟩ hxx hyy, ?_⟩
            rintro m21 hQ
            rw [hK (by omega) (by assumption), if_neg (by assumption), if_pos (by omega)]
            exact TG.tr hN2t hQ
          · skip
            refine ⟨fun c6 => ?_, fun c6 => ?_⟩
            · skip
              refine ⟨hTm.1, ?_⟩
              refine ⟨fun c7 => ?_, fun c7 => ?_⟩
              · skip
                rw [hK (by omega) (by assumption), if_neg (by assumption), if_neg (by omega), if_neg (by assumption)]
                exact hN2t.tg hg ho hz
              · skip
                refine ⟨_, c_Tape_winWhere hg18 ho hxx hyy, ?_⟩
                rintro m24 hQ
                rw [hK (by omega) (by assumption), if_neg (by assumption), if_neg (by omega), if_pos (by omega)]
                exact TG.di hN2t hz hQ
            · skip
              refine ⟨hTm.1, _, c_Tape_readSpot (a := ry.2.1) (f := ry.2.2) hT18 hN2t.2.2.2.1 hN2t.2.2.2.2 hny.2.1 hny.2.2.1 hg18 ho hz ⟨by omega, by omega⟩ hxx hyy, ?_⟩
              rintro m27 hQ
              rw [hK (by omega) (by assumption), if_neg (by assumption), if_pos (by omega)]
              exact TG.tr hN2t hQ
        · skip
          refine ⟨hTm.1, _, c_Tape_readWeight (a := ry.2.1) (f := ry.2.2) hT18 hN2t.2.2.2.1 hN2t.2.2.2.2 hny.2.1 hny.2.2.1 hg18 ho hz hxx hyy, ?_⟩
          rintro m30 hQ
          rw [hK (by omega) (by assumption), if_pos (Classical.not_not.1 (by assumption))]
          exact TG.tr hN2t hQ
      · skip
        refine ⟨hTm.1, ?_⟩
        refine ⟨hTm.1, _, c_Tape_blame (hT.tt hSt) hSt.2.2.2.1 hSt.2.2.2.2 ⟨by omega, by omega⟩ ⟨by decide, by decide⟩, ?_⟩
        rintro m33 hbl
        rw [if_pos rfl] at hbl
        rw [pPt_0 (by omega) (by rw [← ha1, ← hb, ← hk]; exact Classical.not_not.1 (by assumption)), ← ha1]
        exact (hSt.tr hbl).tg hg ho hz
    · skip
      refine ⟨hTm.1, ?_⟩
      refine ⟨hTm.1, _, c_Tape_blame hT h2 h3 ⟨by omega, by omega⟩ ⟨by decide, by decide⟩, ?_⟩
      rintro m36 hbl
      rw [if_pos rfl] at hbl
      rw [pPt_n (by omega)]
      exact hbl.tg hg ho hz
