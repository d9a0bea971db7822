/-! SCRIBE: the text, byte by byte; a state is what was found, and how many are written -/
def pst (w : Int) (s : Int × Int) (c : Int) : Int × Int := (if s.2 = w then c else s.1, iw (s.2 + 1))
def wWord (w i : Int) (s : Int × Int) : Int × Int := zfold (zslen i).toNat (fun k s => pst w s (zsbyte i k)) s
def wNum (w v : Int) (s : Int × Int) : Int × Int := if v < 10 then pst w (pst w s 32) (iw (48 + Int.tmod v 10)) else pst w (pst w (pst w s 32) (iw (48 + iw (Int.tdiv v 10)))) (iw (48 + Int.tmod v 10))
def wSpot (w x y a b : Int) (s : Int × Int) : Int × Int := wNum w b (wNum w a (wNum w y (wNum w x s)))
def wCell (w i e x y a b v : Int) (s : Int × Int) : Int × Int := if v = 0 then s else if e = 0 then wSpot w x y a b (wWord w i s) else wNum w v (wSpot w x y a b (wWord w i s))
def wSpots (w i e : Int) (G : GR) (V : Int → Int → Int → Int → Int) (s : Int × Int) : Int × Int := zfold (G 0).toNat (fun x s => zfold (G 1).toNat (fun y s => zfold (G 2).toNat (fun a s => zfold (G 3).toNat (fun b s => wCell w i e x y a b (V x y a b) s) s) s) s) s
def wWei (w x y v : Int) (s : Int × Int) : Int × Int := if v = 1 then s else wNum w v (wNum w y (wNum w x (wWord w 8 s)))
def wWeis (w : Int) (G : GR) (s : Int × Int) : Int × Int := zfold (G 0).toNat (fun x s => zfold (G 1).toNat (fun y s => wWei w x y (gW G x y) s) s) s
def wAll (w : Int) (G : GR) (s : Int × Int) : Int × Int := wSpots w 10 1 G (gB G) (wSpots w 9 0 G (gV G) (wWeis w G (wNum w (G 3) (wNum w (G 2) (wNum w (G 1) (wNum w (G 0) (wWord w 0 s)))))))
def SI (m : ZM) (w : Int) (s : Int × Int) : Prop := m 60 0 = w ∧ m 60 1 = s.1 ∧ m 60 2 = s.2
def SQ (m m1 : ZM) (w : Int) (s : Int × Int) : Prop := (∀ c, c ≠ 60 → m1 c = m c) ∧ SI m1 w s
theorem SQ.tr {m m1 m2 : ZM} {w : Int} {s t : Int × Int} (h : SQ m m1 w s) (k : SQ m1 m2 w t) : SQ m m2 w t := ⟨fun c hc => by rw [k.1 c hc, h.1 c hc], k.2⟩
theorem SQ.rf {m : ZM} {w : Int} {s : Int × Int} (h : SI m w s) : SQ m m w s := ⟨fun _ _ => rfl, h⟩
theorem c_Scribe_put {d : Nat} {kd : ZK} {m : ZM} {w : Int} {s : Int × Int} (hb : zobj kd 60 3) (hI : SI m w s) {c : Int} : CtV (d + 1) M_Scribe_put [(2, 60), (0, c)] kd m (fun m1 => SQ m m1 w (pst w s c)) := by
  obtain ⟨i0, i1, i2⟩ := hI
  refine S_Scribe_put ?_
  simp only [i0, i2, zup_nj (show (2 : Int) ≠ 1 by decide)]
  refine ⟨hb, hb, ?_⟩
  refine ⟨fun c1 => ?_, fun c1 => ?_⟩
  · skip
    refine ⟨hb, hb, ?_⟩
    refine ⟨fun x hx => by rw [zup_off hx], by rw [zup_nj (by decide)]; exact i0, ?_, ?_⟩
    · rw [zup_nj (by decide), i1, pst]; exact (if_neg (by assumption)).symm
    · rw [zup_self]; rfl
  · skip
    refine ⟨hb, hb, hb, ?_⟩
    refine ⟨fun x hx => by rw [zup_off hx, zup_off hx], by rw [zup_nj (by decide), zup_nj (by decide)]; exact i0, ?_, ?_⟩
    · rw [zup_nj (by decide), zup_self, pst]; exact (if_pos (Classical.not_not.1 (by assumption))).symm
    · rw [zup_self]; rfl
theorem c_Scribe_writeNumber {d : Nat} {kd : ZK} {m : ZM} {w : Int} {s : Int × Int} (hb : zobj kd 60 3) (hI : SI m w s) {v : Int} : CtV (d + 2) M_Scribe_writeNumber [(2, 60), (0, v)] kd m (fun m1 => SQ m m1 w (wNum w v s)) := by
  refine S_Scribe_writeNumber ?_
  refine ⟨hb, _, c_Scribe_put hb hI, ?_⟩
  rintro m3 h1
  refine ⟨fun c1 => ?_, fun c1 => ?_⟩
  · skip
    refine ⟨hb, _, c_Scribe_put hb h1.2, ?_⟩
    rintro m6 h2
    unfold wNum
    rw [if_pos (by assumption)]
    exact h1.tr h2
  · skip
    refine ⟨hb, _, c_Scribe_put hb h1.2, ?_⟩
    rintro m9 h2
    refine ⟨hb, _, c_Scribe_put hb h2.2, ?_⟩
    rintro m12 h3
    unfold wNum
    rw [if_neg (by assumption)]
    exact (h1.tr h2).tr h3
theorem c_Scribe_writeWord {d : Nat} {kd : ZK} {m : ZM} {w : Int} {s : Int × Int} (hb : zobj kd 60 3) (hI : SI m w s) {i : Int} (hi : i.toNat < zsN) : CtV (d + 5) M_Scribe_writeWord [(2, 60), (3, i)] kd m (fun m1 => SQ m m1 w (wWord w i s)) := by
  have hln := zslen_lt _ hi
  have hlp : 0 ≤ zslen i := by unfold zslen; omega
  have hbb := hb
  have L0 := zfor2 (zslen i) (fun (k : Int) (mm : ZM) (t : Int × Int) => Ev (d + 5) M_Scribe_writeWord 0 0 2 [(2, 60), (3, i), (0, k)] [] kd mm (zqV kd (fun m1 => SQ m m1 w (wWord w i s)))) (fun (k : Int) (mm : ZM) (t : Int × Int) => 0 ≤ k ∧ SQ m mm w t ∧ t = zfold k.toNat (fun k s => pst w s (zsbyte i k)) s) (by
    intro k mm t hb hI0 KL0
    obtain ⟨hk0, hQ, ht⟩ := hI0
    refine T_Scribe_writeWord_2 ?_
    refine ⟨hi, _, c_Str_length hi, ?_⟩
    rintro _ _ ⟨rfl, rfl⟩
    refine ⟨fun c1 => ?_, fun c1 => ?_⟩
    · skip
      rw [show k = zslen i by omega] at ht
      rw [ht] at hQ
      exact hQ
    · skip
      refine ⟨hi, _, c_Str_charAt hi ⟨hk0, by omega⟩, ?_⟩
      rintro _ _ ⟨rfl, rfl⟩
      refine ⟨hbb, _, c_Scribe_put hbb hQ.2, ?_⟩
      rintro m9 h1
      rw [iw_s (x := k + 1) (by omega) (by unfold zslen at *; omega)]
      exact KL0 _ _ (by omega) ⟨by omega, hQ.tr h1, by rw [zfold_1 hk0, ← ht]⟩)
  refine S_Scribe_writeWord ?_
  exact L0 0 m s (by omega) ⟨by omega, SQ.rf hI, rfl⟩
theorem c_Scribe_writeSpot {d : Nat} {kd : ZK} {m : ZM} {w : Int} {s : Int × Int} (hb : zobj kd 60 3) (hI : SI m w s) {x y a b : Int} : CtV (d + 3) M_Scribe_writeSpot [(2, 60), (0, x), (0, y), (0, a), (0, b)] kd m (fun m1 => SQ m m1 w (wSpot w x y a b s)) := by
  refine S_Scribe_writeSpot ?_
  refine ⟨hb, _, c_Scribe_writeNumber hb hI, ?_⟩
  rintro m3 h1
  refine ⟨hb, _, c_Scribe_writeNumber hb h1.2, ?_⟩
  rintro m6 h2
  refine ⟨hb, _, c_Scribe_writeNumber hb h2.2, ?_⟩
  rintro m9 h3
  refine ⟨hb, _, c_Scribe_writeNumber hb h3.2, ?_⟩
  rintro m12 h4
  exact ((h1.tr h2).tr h3).tr h4
theorem c_Scribe_writeEntry {d : Nat} {kd : ZK} {m : ZM} {w : Int} {s : Int × Int} (hb : zobj kd 60 3) (hI : SI m w s) {v e : Int} : CtV (d + 3) M_Scribe_writeEntry [(2, 60), (0, v), (0, e)] kd m (fun m1 => SQ m m1 w (if e = 0 then s else wNum w v s)) := by
  refine S_Scribe_writeEntry ?_
  refine ⟨fun c1 => ?_, fun c1 => ?_⟩
  · skip
    rw [if_pos (by assumption)]
    exact SQ.rf hI
  · skip
    refine ⟨hb, _, c_Scribe_writeNumber hb hI, ?_⟩
    rintro m3 h1
    rw [if_neg (by assumption)]
    exact h1
theorem c_Scribe_writeWeights {d : Nat} {kd : ZK} {m : ZM} {g : Int} {G : GR} {w : Int} {s : Int × Int} (hb : zobj kd 60 3) (hI : SI m w s) (hg : CG kd m g G) (ho : GOK G) (hz : 60 < g) : CtV (d + 6) M_Scribe_writeWeights [(2, 60), (2, g)] kd m (fun m1 => SQ m m1 w (wWeis w G s)) := by
  have h0 := ho.1
  have hbb := hb
  have L0 := zfor2 (G 0) (fun (x : Int) (mm : ZM) (t : Int × Int) => Ev (d + 6) M_Scribe_writeWeights 0 0 2 [(2, 60), (2, g), (0, x), zJ, zJ] [] kd mm (zqV kd (fun m1 => SQ m m1 w (wWeis w G s)))) (fun (x : Int) (mm : ZM) (t : Int × Int) => 0 ≤ x ∧ SQ m mm w t ∧ t = zfold x.toNat (fun x s => zfold (G 1).toNat (fun y s => wWei w x y (gW G x y) s) s) s) (by
    intro x mm t hb hI0 KL0
    obtain ⟨hx0, hQ, ht⟩ := hI0
    have hgm : CG kd mm g G := hg.frame (fun a a1 a2 => hQ.1 a (by omega))
    have k0 := hgm.2.1.1
    have k1 := hgm.2.1.2.1
    have k2 := hgm.2.1.2.2.1
    have k3 := hgm.2.1.2.2.2
    have L1 := zfor2 (G 1) (fun (y : Int) (mm : ZM) (u : Int × Int) => Ev (d + 6) M_Scribe_writeWeights 0 0 12 [(2, 60), (2, g), (0, x), (0, y), zJ] [] kd mm (zqV kd (fun m1 => SQ m m1 w (wWeis w G s)))) (fun (y : Int) (mm : ZM) (u : Int × Int) => (0 ≤ y ∧ x < G 0) ∧ SQ m mm w u ∧ u = zfold y.toNat (fun y s => wWei w x y (gW G x y) s) t) (by
      intro y mm u hb hI1 KL1
      obtain ⟨⟨hy0, hxl⟩, hQ, hu⟩ := hI1
      have hgm : CG kd mm g G := hg.frame (fun a a1 a2 => hQ.1 a (by omega))
      have k0 := hgm.2.1.1
      have k1 := hgm.2.1.2.1
      have k2 := hgm.2.1.2.2.1
      have k3 := hgm.2.1.2.2.2
      refine T_Scribe_writeWeights_12 ?_
      try simp only [k0, k1, k2, k3]
      refine ⟨hgm.1.1, ?_⟩
      refine ⟨fun c1 => ?_, fun c1 => ?_⟩
      · skip
        rw [iw_s (x := x + 1) (by omega) (by omega)]
        exact KL0 mm u (by omega) ⟨by omega, hQ, by rw [zfold_1 hx0, ← ht, hu, show y = G 1 by omega]⟩
      · skip
        refine ⟨hgm.1.1, ?_⟩
        refine ⟨_, c_Ap_cellOf (by omega) (by omega), ?_⟩
        rintro _ _ ⟨rfl, rfl⟩
        have hw := hgm.W0 (x := x) (y := y) (by omega) (by omega)
        rw [hw]
        refine ⟨(hgm.1.inW (zC_in (by omega) (by omega))), ?_⟩
        refine ⟨fun c2 => ?_, fun c2 => ?_⟩
        · skip
          rw [iw_s (x := y + 1) (by omega) (by omega)]
          exact KL1 mm u (by omega) ⟨⟨by omega, hxl⟩, hQ, by rw [zfold_1 hy0, ← hu, wWei, if_pos (by assumption)]⟩
        · skip
          refine ⟨hbb, _, c_Scribe_writeWord hbb hQ.2 (by decide), ?_⟩
          rintro m6 h1
          refine ⟨hbb, _, c_Scribe_writeNumber hbb h1.2, ?_⟩
          rintro m9 h2
          refine ⟨hbb, _, c_Scribe_writeNumber hbb h2.2, ?_⟩
          rintro m12 h3
          refine ⟨hbb, _, c_Scribe_writeNumber hbb h3.2, ?_⟩
          rintro m15 h4
          rw [iw_s (x := y + 1) (by omega) (by omega)]
          exact KL1 _ _ (by omega) ⟨⟨by omega, hxl⟩, (((hQ.tr h1).tr h2).tr h3).tr h4, by rw [zfold_1 hy0, ← hu, wWei, if_neg (by assumption)]⟩)
    refine T_Scribe_writeWeights_2 ?_
    try simp only [k0, k1, k2, k3]
    refine ⟨hgm.1.1, ?_⟩
    refine ⟨fun c1 => ?_, fun c1 => ?_⟩
    · skip
      rw [show x = G 0 by omega] at ht
      rw [ht] at hQ
      exact hQ
    · skip
      exact L1 0 mm t (by omega) ⟨⟨by omega, by omega⟩, hQ, rfl⟩)
  refine S_Scribe_writeWeights ?_
  exact L0 0 m s (by omega) ⟨by omega, SQ.rf hI, rfl⟩
theorem c_Scribe_writeSpots {d : Nat} {kd : ZK} {m : ZM} {g : Int} {G : GR} {w : Int} {s : Int × Int} (hb : zobj kd 60 3) (hI : SI m w s) {i e r : Int} {V : Int → Int → Int → Int → Int} (hi : i.toNat < zsN) (hg : CG kd m g G) (ho : GOK G) (hz : 60 < g) (hr : 60 < r) (hra : zarr kd r 0 400) (hV : ∀ x y a b, 0 ≤ x → x < G 0 → 0 ≤ y → y < G 1 → 0 ≤ a → a < G 2 → 0 ≤ b → b < G 3 → m r (zS 0 x y a b) = V x y a b) : CtV (d + 6) M_Scribe_writeSpots [(2, 60), (2, g), (3, i), (2, r), (0, e)] kd m (fun m1 => SQ m m1 w (wSpots w i e G V s)) := by
  have h0 := ho.1
  have hbb := hb
  have L0 := zfor2 (G 0) (fun (x : Int) (mm : ZM) (t : Int × Int) => Ev (d + 6) M_Scribe_writeSpots 0 0 3 [(2, 60), (2, g), (3, i), (2, r), (0, e), (0, x), zJ, zJ, zJ, zJ] [] kd mm (zqV kd (fun m1 => SQ m m1 w (wSpots w i e G V s)))) (fun (x : Int) (mm : ZM) (t : Int × Int) => 0 ≤ x ∧ SQ m mm w t ∧ t = zfold x.toNat (fun x s => zfold (G 1).toNat (fun y s => zfold (G 2).toNat (fun a s => zfold (G 3).toNat (fun b s => wCell w i e x y a b (V x y a b) s) s) s) s) s) (by
    intro x mm t hb hI0 KL0
    obtain ⟨hx0, hQ, ht⟩ := hI0
    have hgm : CG kd mm g G := hg.frame (fun a a1 a2 => hQ.1 a (by omega))
    have k0 := hgm.2.1.1
    have k1 := hgm.2.1.2.1
    have k2 := hgm.2.1.2.2.1
    have k3 := hgm.2.1.2.2.2
    have L1 := zfor2 (G 1) (fun (y : Int) (mm : ZM) (u : Int × Int) => Ev (d + 6) M_Scribe_writeSpots 0 0 15 [(2, 60), (2, g), (3, i), (2, r), (0, e), (0, x), (0, y), zJ, zJ, zJ] [] kd mm (zqV kd (fun m1 => SQ m m1 w (wSpots w i e G V s)))) (fun (y : Int) (mm : ZM) (u : Int × Int) => (0 ≤ y ∧ x < G 0) ∧ SQ m mm w u ∧ u = zfold y.toNat (fun y s => zfold (G 2).toNat (fun a s => zfold (G 3).toNat (fun b s => wCell w i e x y a b (V x y a b) s) s) s) t) (by
      intro y mm u hb hI1 KL1
      obtain ⟨⟨hy0, hxl⟩, hQ, hu⟩ := hI1
      have hgm : CG kd mm g G := hg.frame (fun a a1 a2 => hQ.1 a (by omega))
      have k0 := hgm.2.1.1
      have k1 := hgm.2.1.2.1
      have k2 := hgm.2.1.2.2.1
      have k3 := hgm.2.1.2.2.2
      have L2 := zfor2 (G 2) (fun (a : Int) (mm : ZM) (v : Int × Int) => Ev (d + 6) M_Scribe_writeSpots 0 0 27 [(2, 60), (2, g), (3, i), (2, r), (0, e), (0, x), (0, y), (0, a), zJ, zJ] [] kd mm (zqV kd (fun m1 => SQ m m1 w (wSpots w i e G V s)))) (fun (a : Int) (mm : ZM) (v : Int × Int) => (0 ≤ a ∧ y < G 1) ∧ SQ m mm w v ∧ v = zfold a.toNat (fun a s => zfold (G 3).toNat (fun b s => wCell w i e x y a b (V x y a b) s) s) u) (by
        intro a mm v hb hI2 KL2
        obtain ⟨⟨ha0, hyl⟩, hQ, hv⟩ := hI2
        have hgm : CG kd mm g G := hg.frame (fun a a1 a2 => hQ.1 a (by omega))
        have k0 := hgm.2.1.1
        have k1 := hgm.2.1.2.1
        have k2 := hgm.2.1.2.2.1
        have k3 := hgm.2.1.2.2.2
        have L3 := zfor2 (G 3) (fun (b : Int) (mm : ZM) (z : Int × Int) => Ev (d + 6) M_Scribe_writeSpots 0 0 39 [(2, 60), (2, g), (3, i), (2, r), (0, e), (0, x), (0, y), (0, a), (0, b), zJ] [] kd mm (zqV kd (fun m1 => SQ m m1 w (wSpots w i e G V s)))) (fun (b : Int) (mm : ZM) (z : Int × Int) => (0 ≤ b ∧ a < G 2) ∧ SQ m mm w z ∧ z = zfold b.toNat (fun b s => wCell w i e x y a b (V x y a b) s) v) (by
          intro b mm z hb hI3 KL3
          obtain ⟨⟨hb0, hal⟩, hQ, hzz⟩ := hI3
          have hgm : CG kd mm g G := hg.frame (fun a a1 a2 => hQ.1 a (by omega))
          have k0 := hgm.2.1.1
          have k1 := hgm.2.1.2.1
          have k2 := hgm.2.1.2.2.1
          have k3 := hgm.2.1.2.2.2
          refine T_Scribe_writeSpots_39 ?_
          try simp only [k0, k1, k2, k3]
          refine ⟨hgm.1.1, ?_⟩
          refine ⟨fun c1 => ?_, fun c1 => ?_⟩
          · skip
            rw [iw_s (x := a + 1) (by omega) (by omega)]
            exact KL2 mm z (by omega) ⟨⟨by omega, hyl⟩, hQ, by rw [zfold_1 ha0, ← hv, hzz, show b = G 3 by omega]⟩
          · skip
            refine ⟨_, c_Ap_spotOf (by omega) (by omega) (by omega) (by omega), ?_⟩
            rintro _ _ ⟨rfl, rfl⟩
            have hw : mm r (zS 0 x y a b) = V x y a b := by rw [hQ.1 r (by omega)]; exact hV x y a b hx0 hxl hy0 hyl ha0 hal hb0 (by omega)
            rw [hw]
            refine ⟨⟨400, hra, zS_in (p := 0) (by omega) (by omega) (by omega) (by omega)⟩, ?_⟩
            refine ⟨fun c2 => ?_, fun c2 => ?_⟩
            · skip
              rw [iw_s (x := b + 1) (by omega) (by omega)]
              exact KL3 mm z (by omega) ⟨⟨by omega, hal⟩, hQ, by rw [zfold_1 hb0, ← hzz, wCell, if_pos (by assumption)]⟩
            · skip
              refine ⟨hbb, _, c_Scribe_writeWord hbb hQ.2 hi, ?_⟩
              rintro m6 h1
              refine ⟨hbb, _, c_Scribe_writeSpot hbb h1.2, ?_⟩
              rintro m9 h2
              refine ⟨hbb, _, c_Scribe_writeEntry hbb h2.2, ?_⟩
              rintro m12 h3
              rw [iw_s (x := b + 1) (by omega) (by omega)]
              refine KL3 _ _ (by omega) ⟨⟨by omega, hal⟩, ((hQ.tr h1).tr h2).tr h3, ?_⟩
              rw [zfold_1 hb0, ← hzz]
              unfold wCell
              exact (if_neg (by assumption)).symm)
        refine T_Scribe_writeSpots_27 ?_
        try simp only [k0, k1, k2, k3]
        refine ⟨hgm.1.1, ?_⟩
        refine ⟨fun c1 => ?_, fun c1 => ?_⟩
        · skip
          rw [iw_s (x := y + 1) (by omega) (by omega)]
          exact KL1 mm v (by omega) ⟨⟨by omega, hxl⟩, hQ, by rw [zfold_1 hy0, ← hu, hv, show a = G 2 by omega]⟩
        · skip
          exact L3 0 mm v (by omega) ⟨⟨by omega, by omega⟩, hQ, rfl⟩)
      refine T_Scribe_writeSpots_15 ?_
      try simp only [k0, k1, k2, k3]
      refine ⟨hgm.1.1, ?_⟩
      refine ⟨fun c1 => ?_, fun c1 => ?_⟩
      · skip
        rw [iw_s (x := x + 1) (by omega) (by omega)]
        exact KL0 mm u (by omega) ⟨by omega, hQ, by rw [zfold_1 hx0, ← ht, hu, show y = G 1 by omega]⟩
      · skip
        exact L2 0 mm u (by omega) ⟨⟨by omega, by omega⟩, hQ, rfl⟩)
    refine T_Scribe_writeSpots_3 ?_
    try simp only [k0, k1, k2, k3]
    refine ⟨hgm.1.1, ?_⟩
    refine ⟨fun c1 => ?_, fun c1 => ?_⟩
    · skip
      rw [show x = G 0 by omega] at ht
      rw [ht] at hQ
      exact hQ
    · skip
      exact L1 0 mm t (by omega) ⟨⟨by omega, by omega⟩, hQ, rfl⟩)
  refine S_Scribe_writeSpots ?_
  exact L0 0 m s (by omega) ⟨by omega, SQ.rf hI, rfl⟩
theorem c_Scribe_write {d : Nat} {kd : ZK} {m : ZM} {g : Int} {G : GR} {k : Int} (hb : zobj kd 60 3) (hg : CG kd m g G) (ho : GOK G) (hz : 60 < g) : CtI (d + 7) M_Scribe_write [(2, 60), (2, g), (0, k)] kd m (fun x m1 => (∀ c, c ≠ 60 → m1 c = m c) ∧ (0 < G 0 → m1 60 1 = (wAll k G (m 60 1, 0)).1 ∧ x = (wAll k G (m 60 1, 0)).2) ∧ (¬ 0 < G 0 → m1 60 1 = m 60 1 ∧ x = 0)) := by
  have h0 := ho.1
  have hQ0 : SQ m (zup (zup m 60 0 k) 60 2 0) k (m 60 1, 0) := ⟨fun c hc => by rw [zup_off hc, zup_off hc], by rw [zup_nj (by decide), zup_self], by rw [zup_nj (by decide), zup_nj (by decide)], by rw [zup_self]⟩
  have hcg : ∀ m1 s, SQ m m1 k s → CG kd m1 g G := fun m1 s h => hg.frame (fun a a1 a2 => h.1 a (by omega))
  refine S_Scribe_write ?_
  refine ⟨hb, hb, ?_⟩
  refine ⟨hg.1.1, _, c_Game_isTold (hcg _ _ hQ0), ?_⟩
  rintro _ _ ⟨rfl, rfl⟩
  refine ⟨fun c1 => ?_, fun c1 => ?_⟩
  · try simp only [zb_eq0, zb_ne0] at c1
    refine ⟨hb, _, c_Scribe_writeWord hb hQ0.2 (by decide), ?_⟩
    rintro m6 h0w
    have g0 := hcg _ _ (hQ0.tr h0w)
    have f0 := g0.2.1.1
    try rw [f0]
    refine ⟨hg.1.1, ?_⟩
    refine ⟨hb, _, c_Scribe_writeNumber hb h0w.2, ?_⟩
    rintro m9 h1
    have g1 := hcg _ _ ((hQ0.tr h0w).tr h1)
    have f1 := g1.2.1.2.1
    try rw [f1]
    refine ⟨hg.1.1, ?_⟩
    refine ⟨hb, _, c_Scribe_writeNumber hb h1.2, ?_⟩
    rintro m12 h2
    have g2 := hcg _ _ (((hQ0.tr h0w).tr h1).tr h2)
    have f2 := g2.2.1.2.2.1
    try rw [f2]
    refine ⟨hg.1.1, ?_⟩
    refine ⟨hb, _, c_Scribe_writeNumber hb h2.2, ?_⟩
    rintro m15 h3
    have g3 := hcg _ _ ((((hQ0.tr h0w).tr h1).tr h2).tr h3)
    have f3 := g3.2.1.2.2.2
    try rw [f3]
    refine ⟨hg.1.1, ?_⟩
    refine ⟨hb, _, c_Scribe_writeNumber hb h3.2, ?_⟩
    rintro m18 h4
    have g4 := hcg _ _ (((((hQ0.tr h0w).tr h1).tr h2).tr h3).tr h4)
    have f4 := g4.2.1.1
    try rw [f4]
    refine ⟨hb, _, c_Scribe_writeWeights hb h4.2 g4 ho hz, ?_⟩
    rintro m21 h5
    have g5 := hcg _ _ ((((((hQ0.tr h0w).tr h1).tr h2).tr h3).tr h4).tr h5)
    have f5 := g5.1.2.1.2.1
    try rw [f5]
    refine ⟨hg.1.1, ?_⟩
    refine ⟨hb, _, c_Scribe_writeSpots (V := gV G) hb h5.2 (by decide) g5 ho hz (by omega) g5.1.2.2.2.1 (fun x y a b x0 x1 y0 y1 a0 a1 b0 b1 => by have := g5.V0 (x := x) (y := y) (a := a) (b := b) ⟨x0, x1⟩ ⟨y0, y1⟩ ⟨a0, a1⟩ ⟨b0, b1⟩; rw [g5.1.2.1.2.1] at this; exact this), ?_⟩
    rintro m24 h6
    have g6 := hcg _ _ (((((((hQ0.tr h0w).tr h1).tr h2).tr h3).tr h4).tr h5).tr h6)
    have f6 := g6.1.2.1.2.2
    try rw [f6]
    refine ⟨hg.1.1, ?_⟩
    refine ⟨hb, _, c_Scribe_writeSpots (V := gB G) hb h6.2 (by decide) g6 ho hz (by omega) g6.1.2.2.2.2 (fun x y a b x0 x1 y0 y1 a0 a1 b0 b1 => by have := g6.B0 (x := x) (y := y) (a := a) (b := b) ⟨x0, x1⟩ ⟨y0, y1⟩ ⟨a0, a1⟩ ⟨b0, b1⟩; rw [g6.1.2.1.2.2] at this; exact this), ?_⟩
    rintro m27 h7
    refine ⟨hb, ?_⟩
    have hF := (((((((hQ0.tr h0w).tr h1).tr h2).tr h3).tr h4).tr h5).tr h6).tr h7
    exact ⟨hF.1, fun _ => ⟨hF.2.2.1, hF.2.2.2⟩, fun h => absurd (by omega) h⟩
  · try simp only [zb_eq0, zb_ne0] at c1
    exact ⟨hQ0.1, fun h => absurd h (by omega), fun _ => ⟨hQ0.2.2.1, rfl⟩⟩
