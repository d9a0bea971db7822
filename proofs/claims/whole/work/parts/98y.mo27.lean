/-! THE MODEL, twenty-seventh: reading -/
/-- the tape stands -/
def MoT (kd : ZK) (m : ZM) (T : Int → Int) (n : Int) : Prop := MS kd m ∧ m 78 8 = n ∧ (0 ≤ n ∧ n ≤ 400) ∧ ∀ i, 0 ≤ i → i < n → m 85 i = sgb (T i) ∧ 0 ≤ T i ∧ T i ≤ 255
/-- place and fault -/
def MoS (m : ZM) (s : Int × Int) : Prop := m 78 9 = s.1 ∧ m 78 10 = if s.2 = 0 then -1 else s.2
def MoQ (m m1_q : ZM) (s : Int × Int) : Prop := ((∀ c, c ≠ 78 → m1_q c = m c) ∧ ∀ k, k ≠ 9 → k ≠ 10 → k ≠ 11 → m1_q 78 k = m 78 k) ∧ MoS m1_q s
theorem MoQ.rf {m : ZM} {s : Int × Int} (h : MoS m s) : MoQ m m s := ⟨⟨fun _ _ => rfl, fun _ _ _ _ => rfl⟩, h⟩
theorem MoQ.tr {m m1_q m2_q : ZM} {s t : Int × Int} (h : MoQ m m1_q s) (k : MoQ m1_q m2_q t) : MoQ m m2_q t := ⟨⟨fun c hc_q => by rw [k.1.1 c hc_q, h.1.1 c hc_q], fun c qc_1 qc_2 qc_3 => by rw [k.1.2 c qc_1 qc_2 qc_3, h.1.2 c qc_1 qc_2 qc_3]⟩, k.2⟩
theorem MoT.q {kd : ZK} {m m1_q : ZM} {T : Int → Int} {n : Int} {s : Int × Int} (h : MoT kd m T n) (k : MoQ m m1_q s) : MoT kd m1_q T n := by
  unfold MoT
  rw [k.1.1 85 (by decide), k.1.2 8 (by decide) (by decide) (by decide)]
  refine ⟨⟨h.1.1, ?_⟩, h.2⟩
  unfold MR
  rw [k.1.2 0 (by decide) (by decide) (by decide), k.1.2 1 (by decide) (by decide) (by decide), k.1.2 2 (by decide) (by decide) (by decide), k.1.2 3 (by decide) (by decide) (by decide), k.1.2 4 (by decide) (by decide) (by decide), k.1.2 5 (by decide) (by decide) (by decide), k.1.2 7 (by decide) (by decide) (by decide), k.1.2 12 (by decide) (by decide) (by decide), k.1.2 13 (by decide) (by decide) (by decide), k.1.2 15 (by decide) (by decide) (by decide), k.1.2 17 (by decide) (by decide) (by decide), k.1.2 18 (by decide) (by decide) (by decide), k.1.2 19 (by decide) (by decide) (by decide), k.1.2 20 (by decide) (by decide) (by decide), k.1.2 21 (by decide) (by decide) (by decide), k.1.2 22 (by decide) (by decide) (by decide)]
  exact h.1.2
theorem MoQ.at {m m1_q : ZM} {s : Int × Int} {v : Int} (h : MoQ m m1_q s) : MoQ m (zup m1_q 78 9 v) (v, s.2) := ⟨⟨fun c hc_q => by rw [zup_off hc_q]; exact h.1.1 c hc_q, fun c qc_1 qc_2 qc_3 => by rw [zup_nj qc_1]; exact h.1.2 c qc_1 qc_2 qc_3⟩, by rw [zup_self], by rw [zup_nj (by decide)]; exact h.2.2⟩
theorem MoQ.nm {m m1_q : ZM} {s : Int × Int} {v : Int} (h : MoQ m m1_q s) : MoQ m (zup m1_q 78 11 v) s := ⟨⟨fun c hc_q => by rw [zup_off hc_q]; exact h.1.1 c hc_q, fun c qc_1 qc_2 qc_3 => by rw [zup_nj qc_3]; exact h.1.2 c qc_1 qc_2 qc_3⟩, by rw [zup_nj (by decide)]; exact h.2.1, by rw [zup_nj (by decide)]; exact h.2.2⟩
theorem MoQ.fl {m m1_q : ZM} {s : Int × Int} {v : Int} (h : MoQ m m1_q s) (hv : v ≠ 0) : MoQ m (zup m1_q 78 10 v) (s.1, v) := ⟨⟨fun c hc_q => by rw [zup_off hc_q]; exact h.1.1 c hc_q, fun c qc_1 qc_2 qc_3 => by rw [zup_nj qc_2]; exact h.1.2 c qc_1 qc_2 qc_3⟩, by rw [zup_nj (by decide)]; exact h.2.1, by rw [zup_self]; exact (if_neg hv).symm⟩
/-- the sign at a place -/
def cur (T : Int → Int) (n a : Int) : Int := if a < n then T a else -1
theorem sgb_all : ∀ k : Fin 256, zand (sgb (k.val : Int)) 255 = (k.val : Int) := by decide +kernel
theorem sgb_and {x : Int} (h : 0 ≤ x ∧ x ≤ 255) : zand (sgb x) 255 = x := by
  have := sgb_all ⟨x.toNat, by omega⟩
  rw [show ((⟨x.toNat, by omega⟩ : Fin 256).val : Int) = x by try simp only []; omega] at this
  exact this
theorem c_Mo_sgn {d : Nat} {kd : ZK} {m : ZM} {T : Int → Int} {n : Int} {s : Int × Int} (hT_q : MoT kd m T n) (hS_q : MoS m s) (h0 : 0 ≤ s.1) : CtI (d + 1) M_Mo_sign_0 [(2, 78)] kd m (qE m (cur T n s.1)) := by
  have hob := hT_q.1.o
  have hn := hT_q.2.2.1
  refine S_Mo_sign_0 ?_
  rw [hT_q.1.r7, hT_q.2.1, hS_q.1]
  refine ⟨hob, hob, fun qc_1 => ?_, fun qc_1 => ?_⟩
  · exact ⟨by rw [cur, if_neg (by omega)], rfl⟩
  · have hv := hT_q.2.2.2 s.1 h0 (by omega)
    refine ⟨hob, hob, ⟨400, hT_q.1.k85, by omega, by omega⟩, ?_, rfl⟩
    rw [hv.1, sgb_and hv.2, cur, if_pos (by omega)]
theorem c_Mo_next {d : Nat} {kd : ZK} {m : ZM} {T : Int → Int} {n : Int} {s : Int × Int} (hT_q : MoT kd m T n) (hS_q : MoS m s) (h0 : 0 ≤ s.1 ∧ s.1 ≤ n) : CtI (d + 2) M_Mo_next [(2, 78)] kd m (fun x m1_q => x = cur T n (rn (pB_ T) n s.1) ∧ MoQ m m1_q (rn (pB_ T) n s.1, s.2)) := by
  have hob := hT_q.1.o
  have hn := hT_q.2.2.1
  have qL0 := zfor1 n (fun (i : Int) (mm : ZM) => Ev (d + 2) M_Mo_next 0 0 0 [(2, 78)] [] kd mm (zqI kd (fun x m1_q => x = cur T n (rn (pB_ T) n s.1) ∧ MoQ m m1_q (rn (pB_ T) n s.1, s.2)))) (fun (i : Int) (mm : ZM) => 0 ≤ i ∧ MoQ m mm (i, s.2) ∧ rn (pB_ T) n i = rn (pB_ T) n s.1) (by
    intro i mm hb_q hI0 qKL0
    obtain ⟨hi0, hQ, hR⟩ := hI0
    have hTm := hT_q.q hQ
    refine T_Mo_next_0 ?_
    refine ⟨hob, _, c_Mo_sgn hTm hQ.2 hi0, ?_⟩
    rintro _ _ ⟨rfl, rfl⟩
    refine ⟨fun qc_1 => ?_, fun qc_1 => ?_⟩
    · refine ⟨hob, _, c_Mo_sgn hTm hQ.2 hi0, ?_⟩
      rintro _ _ ⟨rfl, rfl⟩
      have e : rn (pB_ T) n i = i := rn_stop (fun h => qc_1 (by show cur T n i = 32; rw [cur, if_pos h.1]; exact h.2))
      rw [← hR, e]
      exact ⟨rfl, hQ⟩
    · have hc_q := Classical.not_not.1 qc_1
      have hl : i < n ∧ T i = 32 := by
        rw [show cur T n (i, s.2).1 = cur T n i from rfl, cur] at hc_q
        split at hc_q
        · exact ⟨by assumption, hc_q⟩
        · omega
      rw [hQ.2.1, iw_s (x := (i, s.2).1 + 1) (by try simp only []; omega) (by try simp only []; omega)]
      exact ⟨hob, hob, qKL0 _ hl.1 ⟨by omega, hQ.at, by rw [← hR]; exact (rn_go hl.1 hl.2).symm⟩⟩)
  exact Ct.start k_Mo_next (Nat.le_of_ble_eq_true rfl) ⟨1, Or.inr (Or.inl ⟨rfl, rfl⟩)⟩ (qL0 s.1 m h0.2 ⟨h0.1, MoQ.rf hS_q, rfl⟩)
theorem c_Mo_isRight {d : Nat} {kd : ZK} {m : ZM} {s : Int × Int} (hob : zobj kd 78 8) (hS_q : MoS m s) (h0 : 0 ≤ s.2) : CtI (d + 1) M_Mo_isRight [(2, 78)] kd m (qE m (zb (s.2 = 0))) := by
  refine S_Mo_isRight ?_
  rw [hS_q.2]
  refine ⟨hob, fun qc_1 => ?_, fun qc_1 => ?_⟩
  · exact ⟨(zbF (fun e => qc_1 (if_pos e))), rfl⟩
  · refine ⟨(zbT (Classical.byContradiction fun e => ?_)), rfl⟩
    rw [if_neg e] at qc_1
    omega
theorem c_Mo_fails {d : Nat} {kd : ZK} {m : ZM} {s : Int × Int} (hob : zobj kd 78 8) (hS_q : MoS m s) (h0 : 0 ≤ s.2) {k p : Int} (hk : 1 ≤ k ∧ k ≤ 7) (hp : 0 ≤ p ∧ p ≤ 400) : CtV (d + 2) M_Mo_fails [(2, 78), (0, k), (0, p)] kd m (fun m1_q => MoQ m m1_q (s.1, if s.2 = 0 then 8 * p + k else s.2)) := by
  refine S_Mo_fails ?_
  refine ⟨hob, _, c_Mo_isRight hob hS_q h0, ?_⟩
  rintro _ _ ⟨rfl, rfl⟩
  rw [iw_s (x := 8 * p) (by omega) (by omega), iw_s (x := 8 * p + k) (by omega) (by omega)]
  refine ⟨fun qc_1 => ?_, fun qc_1 => ?_⟩
  · rw [if_neg (zb_eq0.1 qc_1)]
    exact MoQ.rf hS_q
  · rw [if_pos (zb_ne0.1 qc_1)]
    exact ⟨hob, (MoQ.rf hS_q).fl (by omega)⟩
theorem sgb_l {x : Int} (h : 0 ≤ x ∧ x ≤ 255) : (97 ≤ sgb x ∧ sgb x ≤ 122) ↔ (97 ≤ x ∧ x ≤ 122) := by
  unfold sgb
  split <;> omega
theorem sgb_e {x c : Int} (h : 0 ≤ x ∧ x ≤ 255) (hc_q : 0 ≤ c ∧ c ≤ 127) : sgb x = c ↔ x = c := by
  unfold sgb
  split <;> omega

theorem c_Mo_takes {d : Nat} {kd : ZK} {m : ZM} {T : Int → Int} {n : Int} {s : Int × Int} (hT_q : MoT kd m T n) (hS_q : MoS m s) (h0 : 0 ≤ s.1 ∧ s.1 ≤ n) {i : Int} (hi_q : i.toNat < zsN) : CtI (d + 5) M_Mo_takes [(2, 78), (3, i)] kd m (fun x m1_q => x = zb (isW T i (rn (pB_ T) n s.1) (rn (pL_ T) n (rn (pB_ T) n s.1))) ∧ MoQ m m1_q (zite (isW T i (rn (pB_ T) n s.1) (rn (pL_ T) n (rn (pB_ T) n s.1))) (rn (pL_ T) n (rn (pB_ T) n s.1)) (rn (pB_ T) n s.1), s.2)) := by
  have hob := hT_q.1.o
  have hn := hT_q.2.2.1
  have hln := zslen_lt _ hi_q
  have hlp : 0 ≤ zslen i := by unfold zslen; omega
  have ha_q := rn_in (P := pB_ T) h0.2
  have hb_q := rn_in (P := pL_ T) ha_q.2
  generalize ea : rn (pB_ T) n s.1 = a1_q at *
  generalize eb : rn (pL_ T) n a1_q = b at *
  refine S_Mo_takes ?_
  refine ⟨hob, _, c_Mo_next hT_q hS_q h0, ?_⟩
  rw [ea]
  rintro x2_q m3_q ⟨_, hQ⟩
  have hTm := hT_q.q hQ
  have hM_q := hTm.1
  have e8 := hTm.2.1
  have e9_q : m3_q 78 9 = a1_q := hQ.2.1
  have r7 := hM_q.r7
  have qL2 := zfor0 (b - a1_q) (fun (k : Int) => ∀ v3 : Int, (v3 = zb (b - a1_q = zslen i ∧ ∀ j, 0 ≤ j → j < k → T (a1_q + j) = zsbyte i j)) → Ev (d + 5) M_Mo_takes 0 0 67 [(2, 78), (3, i), (0, b - a1_q), (0, v3), (0, k)] [] kd m3_q (zqI kd (fun x m1_q => x = zb (isW T i a1_q b) ∧ MoQ m m1_q (zite (isW T i a1_q b) b a1_q, s.2)))) (fun (k : Int) => 0 ≤ k) (by
    intro k hk hk0 qKL2 v3 hv3
    have k110 : (v3 = zb (isW T i a1_q b)) → Ev (d + 5) M_Mo_takes 0 0 110 [(2, 78), zJ, (0, b - a1_q), (0, v3), zJ] [] kd m3_q (zqI kd (fun x m1_q => x = zb (isW T i a1_q b) ∧ MoQ m m1_q (zite (isW T i a1_q b) b a1_q, s.2))) := fun e => by
      refine T_Mo_takes_110 ?_
      rw [e9_q, iw_s (x := a1_q + 0) (by omega) (by omega), iw_s (x := a1_q + (b - a1_q)) (by omega) (by omega)]
      refine ⟨hob, fun qc_1 => ⟨hob, ?_, e, ?_⟩, fun qc_1 => ⟨hob, ?_, e, ?_⟩⟩
      · rw [e]; exact zb_01
      · rw [e] at qc_1
        rw [zite_f (zb_eq0.1 qc_1), show a1_q + 0 = a1_q by omega]
        exact hQ.at
      · rw [e]; exact zb_01
      · rw [e] at qc_1
        rw [zite_t (zb_ne0.1 qc_1), show a1_q + (b - a1_q) = b by omega]
        exact hQ.at
    refine T_Mo_takes_67 ?_
    rw [e9_q, r7, iw_s (x := a1_q + k) (by omega) (by omega), iw_s (x := k + 1) (by omega) (by omega)]
    refine ⟨fun qc_1 => k110 ?_, fun qc_1 => ⟨fun qc_2 => k110 ?_, fun qc_2 => ?_⟩⟩
    · rw [hv3]
      refine zb_congr ⟨fun h => ⟨h.1, fun j j0 j1 => h.2 j j0 (by have := h.1; omega)⟩, fun h => ⟨h.1, fun j j0 j1 => h.2 j j0 (by have := h.1; omega)⟩⟩
    · rw [qc_2] at hv3
      rw [qc_2]
      refine (zbF (fun h => zb_eq0.1 hv3.symm ⟨h.1, fun j j0 j1 => h.2 j j0 (by have := h.1; omega)⟩))
    · rw [hv3] at qc_2
      have h2 := zb_ne0.1 qc_2
      have hv := hTm.2.2.2 (a1_q + k) (by omega) (by omega)
      refine ⟨hob, hob, ⟨400, hM_q.k85, by omega, by omega⟩, hi_q, _, c_Str_charAt hi_q ⟨hk0, by omega⟩, ?_⟩
      rintro _ _ ⟨rfl, rfl⟩
      have hz := zsbyte_in hi_q (k := k) ⟨hk0, by omega⟩
      rw [hv.1]
      have hse := sgb_e hv.2 hz
      refine ⟨fun qc_3 => ?_, fun qc_3 => ?_⟩
      · exact qKL2 (by omega) (by omega) 0 (zbF (fun h => qc_3 (hse.2 (h.2 k hk0 (by omega)))))
      · refine qKL2 (by omega) (by omega) 1 (zbT ⟨h2.1, fun j j0 j1 => ?_⟩)
        rcases (show j = k ∨ j < k by omega) with q | q
        · rw [q]; exact hse.1 (Classical.not_not.1 qc_3)
        · exact h2.2 j j0 q)
  have k50 : Ev (d + 5) M_Mo_takes 0 0 50 [(2, 78), (3, i), (0, b - a1_q), zJ, zJ] [] kd m3_q (zqI kd (fun x m1_q => x = zb (isW T i a1_q b) ∧ MoQ m m1_q (zite (isW T i a1_q b) b a1_q, s.2))) := by
    refine T_Mo_takes_50 ?_
    refine ⟨hi_q, _, c_Str_length hi_q, ?_⟩
    rintro _ _ ⟨rfl, rfl⟩
    refine ⟨fun qc_1 => ?_, fun qc_1 => ?_⟩
    · exact qL2 0 (by omega) (by decide) 0 (zbF (fun h => qc_1 h.1))
    · exact qL2 0 (by omega) (by decide) 1 (zbT ⟨Classical.not_not.1 qc_1, fun j j0 j1 => absurd j1 (by omega)⟩)
  have qL1 := zfor0 (b - a1_q) (fun (k : Int) => Ev (d + 5) M_Mo_takes 0 0 7 [(2, 78), (3, i), (0, k), zJ, zJ] [] kd m3_q (zqI kd (fun x m1_q => x = zb (isW T i a1_q b) ∧ MoQ m m1_q (zite (isW T i a1_q b) b a1_q, s.2)))) (fun (k : Int) => 0 ≤ k ∧ rn (pL_ T) n (a1_q + k) = b) (by
    intro k hk hI1 qKL1
    obtain ⟨hk0, hR⟩ := hI1
    have kk : rn (pL_ T) n (a1_q + k) = a1_q + k → Ev (d + 5) M_Mo_takes 0 0 50 [(2, 78), (3, i), (0, k), zJ, zJ] [] kd m3_q (zqI kd (fun x m1_q => x = zb (isW T i a1_q b) ∧ MoQ m m1_q (zite (isW T i a1_q b) b a1_q, s.2))) := fun e => by
      rw [show k = b - a1_q by omega]
      exact k50
    refine T_Mo_takes_7 ?_
    rw [e8, e9_q, r7, iw_s (x := a1_q + k) (by omega) (by omega), iw_s (x := k + 1) (by omega) (by omega)]
    refine ⟨hob, hob, fun qc_1 => ?_, fun qc_1 => ?_⟩
    · exact kk (rn_stop (fun h => absurd h.1 (by omega)))
    · have hv := hTm.2.2.2 (a1_q + k) (by omega) (by omega)
      rw [hv.1]
      refine ⟨hob, hob, ⟨400, hM_q.k85, by omega, by omega⟩, _, c_Mo_in, ?_⟩
      rintro _ _ ⟨rfl, rfl⟩
      rw [zb_congr (sgb_l hv.2)]
      refine ⟨fun qc_2 => ?_, fun qc_2 => ?_⟩
      · exact kk (rn_stop (fun h => zb_eq0.1 qc_2 h.2))
      · have hg := rn_go (P := pL_ T) (n := n) (a := a1_q + k) (by omega) (zb_ne0.1 qc_2)
        rw [hR] at hg
        have hh := rn_in (P := pL_ T) (n := n) (a := a1_q + k + 1) (by omega)
        rw [← hg] at hh
        exact qKL1 (by omega) ⟨by omega, by rw [show a1_q + (k + 1) = a1_q + k + 1 by omega]; exact hg.symm⟩)
  exact qL1 0 (by omega) ⟨by decide, by rw [show a1_q + 0 = a1_q by omega]; exact eb⟩
theorem c_Mo_number {d : Nat} {kd : ZK} {m : ZM} {T : Int → Int} {n : Int} {s : Int × Int} (hT_q : MoT kd m T n) (hS_q : MoS m s) (h0 : (0 ≤ s.1 ∧ s.1 ≤ n) ∧ 0 ≤ s.2) {lo hi_q : Int} : CtI (d + 3) M_Mo_number [(2, 78), (0, lo), (0, hi_q)] kd m (fun x m1_q => x = (nmR T n lo hi_q s).1 ∧ MoQ m m1_q (nmR T n lo hi_q s).2) := by
  have hob := hT_q.1.o
  have hn := hT_q.2.2.1
  refine S_Mo_number ?_
  refine ⟨hob, _, c_Mo_isRight hob hS_q h0.2, ?_⟩
  rintro _ _ ⟨rfl, rfl⟩
  refine ⟨fun qc_1 => ?_, fun qc_1 => ?_⟩
  · have hf := zb_eq0.1 qc_1
    rw [hS_q.1]
    refine ⟨hob, hob, _, c_Mo_fails hob hS_q h0.2 (by decide) (show 0 ≤ s.1 ∧ s.1 ≤ 400 by omega), ?_⟩
    rintro m6_q h6
    rw [if_neg hf] at h6
    rw [show nmR T n lo hi_q s = (lo, s) from nmR_f (a := s.1) (f := s.2) hf]
    exact ⟨rfl, h6⟩
  · have hf := zb_ne0.1 qc_1
    have es : s = (s.1, 0) := by rw [← hf]
    rw [es]
    have ha_q := rn_in (P := pB_ T) h0.1.2
    have hdg : ∀ a : Int, 0 ≤ a → (zb (48 ≤ cur T n a ∧ cur T n a ≤ 57) = zb (a < n ∧ pD_ T a)) := fun a a0_q => by
      refine zb_congr ?_
      unfold cur
      split
      · exact ⟨fun h => ⟨by assumption, h⟩, fun h => h.2⟩
      · exact ⟨fun h => absurd h.1 (by decide), fun h => absurd h.1 (by assumption)⟩
    refine ⟨hob, _, c_Mo_next hT_q hS_q h0.1, ?_⟩
    rintro x8 m9_q ⟨rfl, hQ⟩
    rw [hf] at hQ
    generalize ea : rn (pB_ T) n s.1 = a1_q at *
    have e9_q : m9_q 78 9 = a1_q := hQ.2.1
    refine ⟨_, c_Mo_in, ?_⟩
    rintro _ _ ⟨rfl, rfl⟩
    rw [hdg a1_q (by omega), e9_q]
    refine ⟨fun qc_2 => ?_, fun qc_2 => ?_⟩
    · have hd1 := zb_ne0.1 qc_2
      refine ⟨hob, hob, ?_⟩
      have qL0 := zfor2 n (fun (k : Int) (mm : ZM) (v : Int) => Ev (d + 3) M_Mo_number 0 0 45 [(2, 78), (0, lo), (0, hi_q), (0, v)] [] kd mm (zqI kd (fun x m1_q => x = (nmR T n lo hi_q (s.1, 0)).1 ∧ MoQ m m1_q (nmR T n lo hi_q (s.1, 0)).2))) (fun (k : Int) (mm : ZM) (v : Int) => a1_q ≤ k ∧ (0 ≤ v ∧ v ≤ 1000) ∧ MoQ m mm (k, 0) ∧ mm 78 11 = a1_q ∧ rn (pD_ T) n k = rn (pD_ T) n a1_q ∧ nv T n k v = nv T n a1_q 0) (by
        intro k mm v hk hI0 qKL0
        obtain ⟨hk0, hvb, hQk, h11, hR, hV⟩ := hI0
        have hTm := hT_q.q hQk
        have ek9 : mm 78 9 = k := hQk.2.1
        refine T_Mo_number_45 ?_
        refine ⟨hob, _, c_Mo_sgn hTm hQk.2 (show 0 ≤ k by omega), ?_⟩
        rintro _ _ ⟨rfl, rfl⟩
        refine ⟨_, c_Mo_in, ?_⟩
        rintro _ _ ⟨rfl, rfl⟩
        rw [show cur T n (k, (0 : Int)).1 = cur T n k from rfl, hdg k (by omega)]
        refine ⟨fun qc_3 => ?_, fun qc_3 => ?_⟩
        · have hst := zb_eq0.1 qc_3
          have hc_q : rn (pD_ T) n a1_q = k := by rw [← hR]; exact rn_stop hst
          have hnv : nv T n a1_q 0 = v := by rw [← hV]; exact nv_stop hst
          have hne : rn (pD_ T) n a1_q ≠ a1_q := by
            rw [rn_go hd1.1 hd1.2]
            have := rn_in (P := pD_ T) (n := n) (a := a1_q + 1) (by omega)
            omega
          refine ⟨_, c_Mo_in, ?_⟩
          rintro _ _ ⟨rfl, rfl⟩
          refine ⟨fun qc_4 => ?_, fun qc_4 => ?_⟩
          · have h4 := zb_ne0.1 qc_4
            rw [nmR_v (by rw [ea]; exact hne) (by rw [ea, hnv]; exact h4), ea, hnv, hc_q]
            exact ⟨rfl, hQk⟩
          · have h4 := zb_eq0.1 (Classical.not_not.1 qc_4)
            rw [h11]
            refine ⟨hob, hob, _, c_Mo_fails hob hQk.2 (Int.le_refl 0) (by decide) (show 0 ≤ a1_q ∧ a1_q ≤ 400 by omega), ?_⟩
            rintro m12_q h12
            rw [if_pos rfl] at h12
            rw [nmR_o (by rw [ea]; exact hne) (by rw [ea, hnv]; omega), ea, hc_q]
            exact ⟨rfl, hQk.tr h12⟩
        · have hst := zb_ne0.1 qc_3
          have hst2 : 48 ≤ T k ∧ T k ≤ 57 := hst.2
          refine ⟨hob, _, c_Mo_sgn hTm hQk.2 (show 0 ≤ k by omega), ?_⟩
          rintro _ _ ⟨rfl, rfl⟩
          rw [show cur T n (k, (0 : Int)).1 = T k from if_pos hst.1, ek9, iw_s (x := 10 * v) (by omega) (by omega), iw_s (x := 10 * v + T k) (by omega) (by omega), iw_s (x := 10 * v + T k - 48) (by omega) (by omega), iw_s (x := k + 1) (by omega) (by omega)]
          refine ⟨hob, hob, qKL0 _ _ hst.1 ⟨by omega, ?_, hQk.at, by rw [zup_nj (by decide)]; exact h11, by rw [← hR]; exact (rn_go hst.1 hst.2).symm, ?_⟩⟩
          · unfold zmin; split <;> omega
          · rw [← hV, nv_go hst.1 hst.2]
            congr 1
            unfold zmin
            split <;> split <;> omega)
      exact qL0 a1_q _ 0 (by omega) ⟨by omega, by decide, hQ.nm, by rw [zup_self], rfl, rfl⟩
    · have hst := zb_eq0.1 (Classical.not_not.1 qc_2)
      refine ⟨hob, hob, _, c_Mo_fails hob hQ.2 (Int.le_refl 0) (by decide) (show 0 ≤ a1_q ∧ a1_q ≤ 400 by omega), ?_⟩
      rintro m15 h15
      rw [if_pos rfl] at h15
      rw [nmR_n (by rw [ea]; exact rn_stop hst), ea]
      exact ⟨rfl, hQ.tr h15⟩
