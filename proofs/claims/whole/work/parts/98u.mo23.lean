/-! THE MODEL, twenty-third: letter -/
def LSI (m : ZM) (w : Int) (s : Int × Int) : Prop := m 78 24 = w ∧ m 78 25 = s.1 ∧ m 78 23 = s.2
def LSQ (m m1_q : ZM) (w : Int) (s : Int × Int) : Prop := ((∀ c, c ≠ 78 → m1_q c = m c) ∧ ∀ k, k ≠ 23 → k ≠ 25 → m1_q 78 k = m 78 k) ∧ LSI m1_q w s
theorem LSQ.tr {m m1_q m2_q : ZM} {w : Int} {s t : Int × Int} (h : LSQ m m1_q w s) (k : LSQ m1_q m2_q w t) : LSQ m m2_q w t := ⟨⟨fun c hc_q => by rw [k.1.1 c hc_q, h.1.1 c hc_q], fun c qc_1 qc_2 => by rw [k.1.2 c qc_1 qc_2, h.1.2 c qc_1 qc_2]⟩, k.2⟩
theorem LSQ.rf {m : ZM} {w : Int} {s : Int × Int} (h : LSI m w s) : LSQ m m w s := ⟨⟨fun _ _ => rfl, fun _ _ _ => rfl⟩, h⟩
theorem LSQ.mf {m m1_q : ZM} {w : Int} {s : Int × Int} (h : LSQ m m1_q w s) : MF m m1_q := ⟨fun c hc_q => h.1.1 c (by omega), fun k hk => h.1.2 k (by omega) (by omega)⟩
theorem c_Mo_writes {d : Nat} {kd : ZK} {m : ZM} {w : Int} {s : Int × Int} (hb_q : zobj kd 78 8) (hI : LSI m w s) {c : Int} : CtV (d + 1) M_Mo_writes [(2, 78), (0, c)] kd m (fun m1_q => LSQ m m1_q w (pst w s c)) := by
  obtain ⟨i0_q, i1_q, i2_q⟩ := hI
  refine S_Mo_writes ?_
  simp only [i0_q, i2_q, zup_nj (show (23 : Int) ≠ 25 by decide)]
  refine ⟨hb_q, hb_q, ?_⟩
  refine ⟨fun qc_1 => ?_, fun qc_1 => ?_⟩
  · refine ⟨hb_q, hb_q, ⟨fun x hx => zup_off hx, fun k k1_q _ => zup_nj k1_q⟩, by rw [zup_nj (by decide)]; exact i0_q, ?_, ?_⟩
    · rw [zup_nj (by decide), i1_q, pst]; exact (if_neg qc_1).symm
    · rw [zup_self]; rfl
  · refine ⟨hb_q, hb_q, hb_q, ⟨fun x hx => by rw [zup_off hx, zup_off hx], fun k k1_q k2_q => by rw [zup_nj k1_q, zup_nj k2_q]⟩, by rw [zup_nj (by decide), zup_nj (by decide)]; exact i0_q, ?_, ?_⟩
    · rw [zup_nj (by decide), zup_self, pst]; exact (if_pos (Classical.not_not.1 qc_1)).symm
    · rw [zup_self]; rfl
theorem c_Mo_writesNumber {d : Nat} {kd : ZK} {m : ZM} {w : Int} {s : Int × Int} (hb_q : zobj kd 78 8) (hI : LSI m w s) {v : Int} : CtV (d + 2) M_Mo_writesNumber [(2, 78), (0, v)] kd m (fun m1_q => LSQ m m1_q w (wNum w v s)) := by
  refine S_Mo_writesNumber ?_
  refine ⟨hb_q, _, c_Mo_writes hb_q hI, ?_⟩
  rintro m3_q h1
  refine ⟨fun qc_1 => ?_, fun qc_1 => ?_⟩
  · refine ⟨hb_q, _, c_Mo_writes hb_q h1.2, ?_⟩
    rintro m6_q h2
    unfold wNum
    rw [if_pos (show v < 10 by omega)]
    exact h1.tr h2
  · refine ⟨hb_q, _, c_Mo_writes hb_q h1.2, ?_⟩
    rintro m9_q h2
    refine ⟨hb_q, _, c_Mo_writes hb_q h2.2, ?_⟩
    rintro m12_q h3
    unfold wNum
    rw [if_neg (show ¬ v < 10 by omega)]
    exact (h1.tr h2).tr h3
theorem c_Mo_writesWord {d : Nat} {kd : ZK} {m : ZM} {w : Int} {s : Int × Int} (hb_q : zobj kd 78 8) (hI : LSI m w s) {i : Int} (hi_q : i.toNat < zsN) : CtV (d + 5) M_Mo_writesWord [(2, 78), (3, i)] kd m (fun m1_q => LSQ m m1_q w (wWord w i s)) := by
  have hln := zslen_lt _ hi_q
  have hlp : 0 ≤ zslen i := by unfold zslen; omega
  have hbb := hb_q
  have qL0 := zfor2 (zslen i) (fun (k : Int) (mm : ZM) (t : Int × Int) => Ev (d + 5) M_Mo_writesWord 0 0 2 [(2, 78), (3, i), (0, k)] [] kd mm (zqV kd (fun m1_q => LSQ m m1_q w (wWord w i s)))) (fun (k : Int) (mm : ZM) (t : Int × Int) => 0 ≤ k ∧ LSQ m mm w t ∧ t = zfold k.toNat (fun k s => pst w s (zsbyte i k)) s) (by
    intro k mm t hb_q hI0 qKL0
    obtain ⟨hk0, hQ, ht⟩ := hI0
    refine T_Mo_writesWord_2 ?_
    refine ⟨hi_q, _, c_Str_length hi_q, ?_⟩
    rintro _ _ ⟨rfl, rfl⟩
    refine ⟨fun qc_1 => ?_, fun qc_1 => ?_⟩
    · skip
      rw [show k = zslen i by omega] at ht
      rw [ht] at hQ
      exact hQ
    · skip
      refine ⟨hi_q, _, c_Str_charAt hi_q ⟨hk0, by omega⟩, ?_⟩
      rintro _ _ ⟨rfl, rfl⟩
      refine ⟨hbb, _, c_Mo_writes hbb hQ.2, ?_⟩
      rintro m9_q h1
      rw [iw_s (x := k + 1) (by omega) (by unfold zslen at *; omega)]
      exact qKL0 _ _ (by omega) ⟨by omega, hQ.tr h1, by rw [zfold_1 hk0, ← ht]⟩)
  refine S_Mo_writesWord ?_
  exact qL0 0 m s (by omega) ⟨by omega, LSQ.rf hI, rfl⟩
