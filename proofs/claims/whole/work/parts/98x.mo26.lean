/-! THE MODEL, twenty-sixth: letter, whole -/
theorem c_Mo_writesAll {d : Nat} {kd : ZK} {m : ZM} {G : GR} {w : Int} {s : Int × Int} (h : MG kd m G) (hI : LSI m w s) : CtV (d + 7) M_Mo_writesAll [(2, 78)] kd m (fun m1_q => LSQ m m1_q w (wAll w G s)) := by
  have hob := h.s.o
  have h0 := h.ok.1
  have hq0 : nQ G 0 = G 0 := rfl
  have hq1 : nQ G 1 = G 1 := rfl
  obtain ⟨s1_q, hs1⟩ : ∃ s1_q, s1_q = wNum w (G 3) (wNum w (G 2) (wNum w (G 1) (wNum w (G 0) (wWord w 0 s)))) := ⟨_, rfl⟩
  have qL1 := zfor2 (G 0) (fun (x : Int) (mm : ZM) (t : Int × Int) => Ev (d + 7) M_Mo_writesAll 0 0 31 [(2, 78), (0, x), zJ] [] kd mm (zqV kd (fun m1_q => LSQ m m1_q w (wAll w G s)))) (fun (x : Int) (mm : ZM) (t : Int × Int) => 0 ≤ x ∧ LSQ m mm w t ∧ t = zfold x.toNat (fun x s => zfold (G 1).toNat (fun y s => wWei w x y (gW G x y) s) s) s1_q) (by
    intro x mm t hb_q hI0 qKL1
    obtain ⟨hx0, hQ, ht⟩ := hI0
    have hmg := h.mf hQ.mf
    have qL2 := zfor2 (G 1) (fun (y : Int) (mm : ZM) (u : Int × Int) => Ev (d + 7) M_Mo_writesAll 0 0 42 [(2, 78), (0, x), (0, y)] [] kd mm (zqV kd (fun m1_q => LSQ m m1_q w (wAll w G s)))) (fun (y : Int) (mm : ZM) (u : Int × Int) => (0 ≤ y ∧ x < G 0) ∧ LSQ m mm w u ∧ u = zfold y.toNat (fun y s => wWei w x y (gW G x y) s) t) (by
      intro y mm u hb_q hI1 qKL2
      obtain ⟨⟨hy0, hxl⟩, hQ, hu⟩ := hI1
      have hmg := h.mf hQ.mf
      refine T_Mo_writesAll_42 ?_
      refine ⟨hob, _, c_Mo_questions hmg (Or.inr rfl), ?_⟩
      rintro _ _ ⟨rfl, rfl⟩
      refine ⟨fun qc_1 => ?_, fun qc_1 => ?_⟩
      · rw [iw_s (x := x + 1) (by omega) (by omega)]
        exact qKL1 mm u hxl ⟨by omega, hQ, by rw [zfold_1 hx0, ← ht, hu, show y = G 1 by omega]⟩
      · refine ⟨hob, _, c_Mo_weightOf hmg (by omega) (by omega), ?_⟩
        rintro _ _ ⟨rfl, rfl⟩
        rw [iw_s (x := y + 1) (by omega) (by omega)]
        refine ⟨fun qc_2 => ?_, fun qc_2 => ?_⟩
        · refine ⟨hob, _, c_Mo_writesWord hob hQ.2 (by decide), ?_⟩
          rintro m9_q h1
          refine ⟨hob, _, c_Mo_writesNumber hob h1.2, ?_⟩
          rintro m12_q h2
          refine ⟨hob, _, c_Mo_writesNumber hob h2.2, ?_⟩
          rintro m15 h3
          have hmg15 := h.mf (((hQ.tr h1).tr h2).tr h3).mf
          refine ⟨hob, _, c_Mo_weightOf hmg15 (by omega) (by omega), ?_⟩
          rintro _ _ ⟨rfl, rfl⟩
          refine ⟨hob, _, c_Mo_writesNumber hob h3.2, ?_⟩
          rintro m21 h4
          exact qKL2 _ _ (by omega) ⟨⟨by omega, hxl⟩, (((hQ.tr h1).tr h2).tr h3).tr h4, by rw [zfold_1 hy0, ← hu, wWei, if_neg qc_2]⟩
        · exact qKL2 mm u (by omega) ⟨⟨by omega, hxl⟩, hQ, by rw [zfold_1 hy0, ← hu, wWei, if_pos (Classical.not_not.1 qc_2)]⟩)
    refine T_Mo_writesAll_31 ?_
    refine ⟨hob, _, c_Mo_questions hmg (Or.inl rfl), ?_⟩
    rintro _ _ ⟨rfl, rfl⟩
    refine ⟨fun qc_1 => ?_, fun qc_1 => ?_⟩
    · refine ⟨hob, _, c_Mo_writesWin hmg hQ.2, ?_⟩
      rintro m6_q h1
      have hmg6 := h.mf (hQ.tr h1).mf
      refine ⟨hob, _, c_Mo_writesBox hmg6 h1.2, ?_⟩
      rintro m9_q h2
      have hF := (hQ.tr h1).tr h2
      rw [ht, show x = G 0 by omega, hs1] at hF
      exact hF
    · exact qL2 0 mm t (by omega) ⟨⟨by decide, by omega⟩, hQ, rfl⟩)
  have qL0 := zfor2 4 (fun (k : Int) (mm : ZM) (t : Int × Int) => Ev (d + 7) M_Mo_writesAll 0 0 8 [(2, 78), (0, k), zJ] [] kd mm (zqV kd (fun m1_q => LSQ m m1_q w (wAll w G s)))) (fun (k : Int) (mm : ZM) (t : Int × Int) => 0 ≤ k ∧ LSQ m mm w t ∧ t = zfold k.toNat (fun k s => wNum w (G k) s) (wWord w 0 s)) (by
    intro k mm t hb_q hI0 qKL0
    obtain ⟨hk0, hQ, ht⟩ := hI0
    have hmg := h.mf hQ.mf
    have r0 := hmg.s.r0
    refine T_Mo_writesAll_8 ?_
    refine ⟨fun qc_1 => ?_, fun qc_1 => ?_⟩
    · refine qL1 0 mm t (by omega) ⟨by decide, hQ, ?_⟩
      rw [ht, show k = 4 by omega, hs1]
      rfl
    · rw [r0, hmg.now hk0 (by omega), iw_s (x := k + 1) (by omega) (by omega)]
      refine ⟨hob, ⟨829, hmg.s.k79, by omega, by omega⟩, ?_⟩
      refine ⟨hob, _, c_Mo_writesNumber hob hQ.2, ?_⟩
      rintro m3_q h1
      exact qKL0 _ _ (by omega) ⟨by omega, hQ.tr h1, by rw [zfold_1 hk0, ← ht]⟩)
  refine S_Mo_writesAll ?_
  refine ⟨hob, _, c_Mo_writesWord hob hI (by decide), ?_⟩
  rintro m3_q h1
  exact qL0 0 m3_q _ (by decide) ⟨by decide, (LSQ.rf hI).tr h1, rfl⟩
theorem c_Mo_letter {d : Nat} {kd : ZK} {m : ZM} {G : GR} (h : MG kd m G) {k : Int} : CtI (d + 8) M_Mo_letter [(2, 78), (0, k)] kd m (fun x m1_q => pLetter G k x ∧ MF m m1_q) := by
  have hob := h.s.o
  have key : ∀ mx : ZM, MF m mx → -1 ≤ k → mx 78 23 = aLen G → (0 ≤ k → k < aLen G → mx 78 25 = (wAll k G (0, 0)).1) → Ev (d + 8) M_Mo_letter 0 0 28 [(2, 78), (0, k)] [] kd mx (zqI kd (fun x m1_q => pLetter G k x ∧ MF m m1_q)) := fun mx hF hk e1_q e2_q => by
    refine T_Mo_letter_28 ?_
    rw [e1_q]
    refine ⟨fun qc_1 => ⟨hob, fun qc_2 => ?_, fun qc_2 => ?_⟩, fun qc_1 => ⟨hob, ?_⟩⟩
    · exact ⟨zcs_t hk (zcs_f qc_1 (zcs_f (by omega) rfl)), hF⟩
    · exact ⟨hob, zcs_t hk (zcs_f qc_1 (zcs_t (by omega) (e2_q (by omega) (by omega)))), hF⟩
    · exact ⟨zcs_t hk (zcs_t (Classical.not_not.1 qc_1) rfl), hF⟩
  refine S_Mo_letter ?_
  refine ⟨fun qc_1 => ?_, fun qc_1 => ?_⟩
  · refine ⟨hob, hob, ?_⟩
    have hg1 : MG kd (zup (zup m 78 23 0) 78 24 k) G := (h.up (k := 23) (v := 0) (by omega)).up (k := 24) (v := k) (by omega)
    have hf1 : MF m (zup (zup m 78 23 0) 78 24 k) := (MF.rf.up (k := 23) (v := 0) (by omega)).up (k := 24) (v := k) (by omega)
    have hI1 : LSI (zup (zup m 78 23 0) 78 24 k) k (m 78 25, 0) := ⟨by rw [zup_self], by rw [zup_nj (by decide), zup_nj (by decide)], by rw [zup_nj (by decide), zup_self]⟩
    refine ⟨hob, _, c_Mo_hasGame hg1, ?_⟩
    rintro _ _ ⟨rfl, rfl⟩
    refine ⟨fun qc_2 => ?_, fun qc_2 => ?_⟩
    · replace qc_2 := zb_eq0.1 qc_2
      have hl : aLen G = 0 := by rw [aLen, zite_f (show ¬ told G from qc_2)]
      exact key _ hf1 qc_1 (by rw [hI1.2.2, hl]) (fun a b => by omega)
    · replace qc_2 := zb_ne0.1 qc_2
      refine ⟨hob, _, c_Mo_writesAll hg1 hI1, ?_⟩
      rintro m6_q h6
      refine key _ (hf1.tr h6.mf) qc_1 (by rw [h6.2.2.2]; exact aLen_k h.ok _ _ qc_2) (fun a b => ?_)
      obtain ⟨L, i1_q, i2_q, i3_q, i4_q⟩ := wAll_k h.ok
      have hl := aLen_k h.ok k (m 78 25) qc_2
      rw [i3_q] at hl
      rw [h6.2.2.1]
      exact i4_q k _ (by omega) (by omega)
  · exact ⟨zcs_f qc_1 rfl, MF.rf⟩
