/-! TREES of ApartGamesModel, 3: by program -/
set_option maxRecDepth 20000 in
set_option maxHeartbeats 1000000 in
theorem T_Mo_ways_0 {d : Nat} {kd : ZK} {m : ZM} {q : Int → ZM → Prop} {v0 v1 v2 : Int} (h : (Ev (d + 1) M_Mo_ways 0 0 5 [(2, v0), (0, v1), (0, v2), (1, 1), zJ, (0, 0), zJ, zJ, zJ, zJ] [] kd m (zqL kd q))) : Ev (d + 1) M_Mo_ways 0 0 0 [(2, v0), (0, v1), (0, v2), zJ, zJ, zJ, zJ, zJ, zJ, zJ] [] kd m (zqL kd q) := by
  refine EvX.blk (pc' := 5) [(.lconst 1, 0, 0), (.lstore_n 3, 0, 0), (.iconst 0, 0, 0), (.istore 5, 0, 0)] (by decide +kernel) trivial ?_
  show Ev (d + 1) M_Mo_ways 0 0 5 [(2, v0), (0, v1), (0, v2), (1, 1), zJ, (0, 0), zJ, zJ, zJ, zJ] [] kd m (zqL kd q)
  exact h
theorem S_Mo_ways {d : Nat} {kd : ZK} {m : ZM} {q : Int → ZM → Prop} {v0 v1 v2 : Int} (h : (Ev (d + 1) M_Mo_ways 0 0 5 [(2, v0), (0, v1), (0, v2), (1, 1), zJ, (0, 0), zJ, zJ, zJ, zJ] [] kd m (zqL kd q))) : CtL (d + 1) M_Mo_ways [(2, v0), (0, v1), (0, v2)] kd m q :=
  Ct.start k_Mo_ways (Nat.le_of_ble_eq_true rfl) ⟨3, Or.inr (Or.inr (Or.inr (Or.inl ⟨rfl, rfl⟩)))⟩ (T_Mo_ways_0 h)
set_option maxRecDepth 20000 in
set_option maxHeartbeats 1000000 in
theorem T_Mo_ways_5 {d : Nat} {kd : ZK} {m : ZM} {q : Int → ZM → Prop} {v0 v1 v2 v3 v5 : Int} (h : (zobj kd v0 8 ∧ ∃ q1, CtI d M_Mo_questions [(2, v0), (0, 1)] kd m q1 ∧ ∀ x2 m3, q1 x2 m3 → ((x2 ≤ v5 → q v3 m3) ∧ (¬ x2 ≤ v5 → (zobj kd v0 8 ∧ ∃ q4, CtV d M_Mo_laysBy [(2, v0), (0, 0), (0, v5)] kd m3 q4 ∧ ∀ m6, q4 m6 → (zobj kd v0 8 ∧ ∃ q7, CtI d M_Mo_bestBy [(2, v0), (0, 0)] kd m6 q7 ∧ ∀ x8 m9, q7 x8 m9 → (Ev (d + 1) M_Mo_ways 0 0 35 [(2, v0), (0, v1), (0, v2), (1, v3), zJ, (0, v5), (0, x8), (0, 0), (0, 0), zJ] [] kd m9 (zqL kd q)))))))) : Ev (d + 1) M_Mo_ways 0 0 5 [(2, v0), (0, v1), (0, v2), (1, v3), zJ, (0, v5), zJ, zJ, zJ, zJ] [] kd m (zqL kd q) := by
  refine EvX.blk (pc' := 9) [(.iload 5, 0, 0), (.aload_n 0, 0, 0), (.iconst 1, 0, 0)] (by decide +kernel) trivial ?_
  show Ev (d + 1) M_Mo_ways 0 0 9 [(2, v0), (0, v1), (0, v2), (1, v3), zJ, (0, v5), zJ, zJ, zJ, zJ] [(0, 1), (2, v0), (0, v5)] kd m (zqL kd q)
  obtain ⟨ov, h⟩ := h
  obtain ⟨q1, hq, h⟩ := h
  refine EvX.callV (c := 8) (mc := 0) (ms := 0) (as := [(0, 1)]) (st := [(0, v5)]) (by decide +kernel) l_Mo_163 k_Mo_questions v_Mo_questions a_Mo_questions (by decide) (Nat.le_of_ble_eq_true rfl) rfl ov hq (fun r kd1 m3 hr => ?_)
  obtain ⟨x2, rfl, hk, hr⟩ := hr
  subst kd1
  have h := h x2 m3 hr
  show Ev (d + 1) M_Mo_ways 0 0 12 [(2, v0), (0, v1), (0, v2), (1, v3), zJ, (0, v5), zJ, zJ, zJ, zJ] [(0, x2), (0, v5)] kd m3 (zqL kd q)
  refine EvX.icmp_ge (off := 112) (tgt := 124) (by decide +kernel) (by decide) (fun hc => ?_) (fun hc => ?_)
  · have h := h.1 hc
    refine EvX.blk (pc' := 125) [(.lload_n 3, 0, 0)] (by decide +kernel) trivial ?_
    show Ev (d + 1) M_Mo_ways 0 0 125 [(2, v0), (0, v1), (0, v2), (1, v3), zJ, (0, v5), zJ, zJ, zJ, zJ] [(1, v3)] kd m3 (zqL kd q)
    exact EvX.ret (r := (1, v3)) (by decide +kernel) rfl ⟨_, rfl, rfl, h⟩
  · have h := h.2 hc
    refine EvX.blk (pc' := 19) [(.aload_n 0, 0, 0), (.iconst 0, 0, 0), (.iload 5, 0, 0)] (by decide +kernel) trivial ?_
    show Ev (d + 1) M_Mo_ways 0 0 19 [(2, v0), (0, v1), (0, v2), (1, v3), zJ, (0, v5), zJ, zJ, zJ, zJ] [(0, v5), (0, 0), (2, v0)] kd m3 (zqL kd q)
    obtain ⟨ov, h⟩ := h
    obtain ⟨q4, hq, h⟩ := h
    refine EvX.callV (c := 8) (mc := 0) (ms := 0) (as := [(0, 0), (0, v5)]) (st := []) (by decide +kernel) l_Mo_256 k_Mo_laysBy v_Mo_laysBy a_Mo_laysBy (by decide) (Nat.le_of_ble_eq_true rfl) rfl ov hq (fun r kd1 m6 hr => ?_)
    obtain ⟨rfl, hk, hr⟩ := hr
    subst kd1
    have h := h m6 hr
    show Ev (d + 1) M_Mo_ways 0 0 22 [(2, v0), (0, v1), (0, v2), (1, v3), zJ, (0, v5), zJ, zJ, zJ, zJ] [] kd m6 (zqL kd q)
    refine EvX.blk (pc' := 24) [(.aload_n 0, 0, 0), (.iconst 0, 0, 0)] (by decide +kernel) trivial ?_
    show Ev (d + 1) M_Mo_ways 0 0 24 [(2, v0), (0, v1), (0, v2), (1, v3), zJ, (0, v5), zJ, zJ, zJ, zJ] [(0, 0), (2, v0)] kd m6 (zqL kd q)
    obtain ⟨ov, h⟩ := h
    obtain ⟨q7, hq, h⟩ := h
    refine EvX.callV (c := 8) (mc := 0) (ms := 0) (as := [(0, 0)]) (st := []) (by decide +kernel) l_Mo_259 k_Mo_bestBy v_Mo_bestBy a_Mo_bestBy (by decide) (Nat.le_of_ble_eq_true rfl) rfl ov hq (fun r kd1 m9 hr => ?_)
    obtain ⟨x8, rfl, hk, hr⟩ := hr
    subst kd1
    have h := h x8 m9 hr
    show Ev (d + 1) M_Mo_ways 0 0 27 [(2, v0), (0, v1), (0, v2), (1, v3), zJ, (0, v5), zJ, zJ, zJ, zJ] [(0, x8)] kd m9 (zqL kd q)
    refine EvX.blk (pc' := 35) [(.istore 6, 0, 0), (.iconst 0, 0, 0), (.istore 7, 0, 0), (.iconst 0, 0, 0), (.istore 8, 0, 0)] (by decide +kernel) trivial ?_
    show Ev (d + 1) M_Mo_ways 0 0 35 [(2, v0), (0, v1), (0, v2), (1, v3), zJ, (0, v5), (0, x8), (0, 0), (0, 0), zJ] [] kd m9 (zqL kd q)
    exact h
set_option maxRecDepth 20000 in
set_option maxHeartbeats 1000000 in
theorem T_Mo_ways_35 {d : Nat} {kd : ZK} {m : ZM} {q : Int → ZM → Prop} {v0 v1 v2 v3 v5 v6 v7 v8 : Int} (h : (zobj kd v0 8 ∧ ∃ q1, CtI d M_Mo_answers [(2, v0), (0, 1)] kd m q1 ∧ ∀ x2 m3, q1 x2 m3 → ((x2 ≤ v8 → (Ev (d + 1) M_Mo_ways 0 0 5 [(2, v0), (0, v1), (0, v2), (1, lw64 (v3 * v7)), zJ, (0, iw (v5 + 1)), zJ, zJ, zJ, zJ] [] kd m3 (zqL kd q))) ∧ (¬ x2 ≤ v8 → ((v5 ≠ v2 → (Ev (d + 1) M_Mo_ways 0 0 74 [(2, v0), (0, v1), (0, v2), (1, v3), zJ, (0, v5), (0, v6), (0, v7), (0, v8), zJ] [(0, 1)] kd m3 (zqL kd q))) ∧ (¬ v5 ≠ v2 → (zobj kd v0 8 ∧ zIn kd (m3 v0 12) 0 v1 ∧ (zobj kd v0 8 ∧ ∃ q4, CtI d M_Mo_isWin [(2, v0), (0, v1), (0, v5), (0, m3 (m3 v0 12) v1), (0, v8)] kd m3 q4 ∧ ∀ x5 m6, q4 x5 m6 → ((x5 ≠ 0 → (Ev (d + 1) M_Mo_ways 0 0 74 [(2, v0), (0, v1), (0, v2), (1, v3), zJ, (0, v5), (0, v6), (0, v7), (0, v8), zJ] [(0, 0)] kd m6 (zqL kd q))) ∧ (¬ x5 ≠ 0 → (Ev (d + 1) M_Mo_ways 0 0 74 [(2, v0), (0, v1), (0, v2), (1, v3), zJ, (0, v5), (0, v6), (0, v7), (0, v8), zJ] [(0, 1)] kd m6 (zqL kd q)))))))))))) : Ev (d + 1) M_Mo_ways 0 0 35 [(2, v0), (0, v1), (0, v2), (1, v3), zJ, (0, v5), (0, v6), (0, v7), (0, v8), zJ] [] kd m (zqL kd q) := by
  refine EvX.blk (pc' := 39) [(.iload 8, 0, 0), (.aload_n 0, 0, 0), (.iconst 1, 0, 0)] (by decide +kernel) trivial ?_
  show Ev (d + 1) M_Mo_ways 0 0 39 [(2, v0), (0, v1), (0, v2), (1, v3), zJ, (0, v5), (0, v6), (0, v7), (0, v8), zJ] [(0, 1), (2, v0), (0, v8)] kd m (zqL kd q)
  obtain ⟨ov, h⟩ := h
  obtain ⟨q1, hq, h⟩ := h
  refine EvX.callV (c := 8) (mc := 0) (ms := 0) (as := [(0, 1)]) (st := [(0, v8)]) (by decide +kernel) l_Mo_167 k_Mo_answers v_Mo_answers a_Mo_answers (by decide) (Nat.le_of_ble_eq_true rfl) rfl ov hq (fun r kd1 m3 hr => ?_)
  obtain ⟨x2, rfl, hk, hr⟩ := hr
  subst kd1
  have h := h x2 m3 hr
  show Ev (d + 1) M_Mo_ways 0 0 42 [(2, v0), (0, v1), (0, v2), (1, v3), zJ, (0, v5), (0, v6), (0, v7), (0, v8), zJ] [(0, x2), (0, v8)] kd m3 (zqL kd q)
  refine EvX.icmp_ge (off := 70) (tgt := 112) (by decide +kernel) (by decide) (fun hc => ?_) (fun hc => ?_)
  · have h := h.1 hc
    refine EvX.blk (pc' := 121) [(.lload_n 3, 0, 0), (.iload 7, 0, 0), (.i2l, 0, 0), (.lmul, 0, 0), (.lstore_n 3, 0, 0), (.iinc 5 1, 0, 0)] (by decide +kernel) trivial ?_
    show Ev (d + 1) M_Mo_ways 0 0 121 [(2, v0), (0, v1), (0, v2), (1, lw64 (v3 * v7)), zJ, (0, iw (v5 + 1)), (0, v6), (0, v7), (0, v8), zJ] [] kd m3 (zqL kd q)
    refine EvX.goto (off := (-116)) (tgt := 5) (by decide +kernel) (by decide) ?_
    exact EvX.weak (ls2 := [(2, v0), (0, v1), (0, v2), (1, lw64 (v3 * v7)), zJ, (0, iw (v5 + 1)), zJ, zJ, zJ, zJ]) (zwk_of ⟨Or.inr rfl, Or.inr rfl, Or.inr rfl, Or.inr rfl, Or.inl rfl, Or.inr rfl, Or.inl rfl, Or.inl rfl, Or.inl rfl, Or.inl rfl, trivial⟩) h
  · have h := h.2 hc
    refine EvX.blk (pc' := 48) [(.iload 5, 0, 0), (.iload_n 2, 0, 0)] (by decide +kernel) trivial ?_
    show Ev (d + 1) M_Mo_ways 0 0 48 [(2, v0), (0, v1), (0, v2), (1, v3), zJ, (0, v5), (0, v6), (0, v7), (0, v8), zJ] [(0, v2), (0, v5)] kd m3 (zqL kd q)
    refine EvX.icmp_ne (off := 21) (tgt := 69) (by decide +kernel) (by decide) (fun hc => ?_) (fun hc => ?_)
    · have h := h.1 hc
      refine EvX.blk (pc' := 70) [(.iconst 1, 0, 0)] (by decide +kernel) trivial ?_
      show Ev (d + 1) M_Mo_ways 0 0 70 [(2, v0), (0, v1), (0, v2), (1, v3), zJ, (0, v5), (0, v6), (0, v7), (0, v8), zJ] [(0, 1)] kd m3 (zqL kd q)
      refine EvX.goto (off := 4) (tgt := 74) (by decide +kernel) (by decide) ?_
      exact h
    · have h := h.2 hc
      obtain ⟨o1, o2, h⟩ := h
      refine EvX.blk (pc' := 63) [(.aload_n 0, 0, 0), (.iload_n 1, 0, 0), (.iload 5, 0, 0), (.aload_n 0, 0, 0), (.getfield 33, 8, 12), (.iload_n 1, 0, 0), (.iaload, 0, 0), (.iload 8, 0, 0)] (by decide +kernel) ⟨g_Mo_33, trivial⟩ ⟨o1, o2, ?_⟩
      show Ev (d + 1) M_Mo_ways 0 0 63 [(2, v0), (0, v1), (0, v2), (1, v3), zJ, (0, v5), (0, v6), (0, v7), (0, v8), zJ] [(0, v8), (0, m3 (m3 v0 12) v1), (0, v5), (0, v1), (2, v0)] kd m3 (zqL kd q)
      obtain ⟨ov, h⟩ := h
      obtain ⟨q4, hq, h⟩ := h
      refine EvX.callV (c := 8) (mc := 0) (ms := 0) (as := [(0, v1), (0, v5), (0, m3 (m3 v0 12) v1), (0, v8)]) (st := []) (by decide +kernel) l_Mo_197 k_Mo_isWin v_Mo_isWin a_Mo_isWin (by decide) (Nat.le_of_ble_eq_true rfl) rfl ov hq (fun r kd1 m6 hr => ?_)
      obtain ⟨x5, rfl, hk, hr⟩ := hr
      subst kd1
      have h := h x5 m6 hr
      show Ev (d + 1) M_Mo_ways 0 0 66 [(2, v0), (0, v1), (0, v2), (1, v3), zJ, (0, v5), (0, v6), (0, v7), (0, v8), zJ] [(0, x5)] kd m6 (zqL kd q)
      refine EvX.if_ne (off := 7) (tgt := 73) (by decide +kernel) (by decide) (fun hc => ?_) (fun hc => ?_)
      · have h := h.1 hc
        refine EvX.blk (pc' := 74) [(.iconst 0, 0, 0)] (by decide +kernel) trivial ?_
        show Ev (d + 1) M_Mo_ways 0 0 74 [(2, v0), (0, v1), (0, v2), (1, v3), zJ, (0, v5), (0, v6), (0, v7), (0, v8), zJ] [(0, 0)] kd m6 (zqL kd q)
        exact h
      · have h := h.2 hc
        refine EvX.blk (pc' := 70) [(.iconst 1, 0, 0)] (by decide +kernel) trivial ?_
        show Ev (d + 1) M_Mo_ways 0 0 70 [(2, v0), (0, v1), (0, v2), (1, v3), zJ, (0, v5), (0, v6), (0, v7), (0, v8), zJ] [(0, 1)] kd m6 (zqL kd q)
        refine EvX.goto (off := 4) (tgt := 74) (by decide +kernel) (by decide) ?_
        exact h
set_option maxRecDepth 20000 in
set_option maxHeartbeats 1000000 in
theorem T_Mo_ways_74 {d : Nat} {kd : ZK} {m : ZM} {q : Int → ZM → Prop} {v0 v1 v2 v3 v5 v6 v7 v8 s0 : Int} (h : (zobj kd v0 8 ∧ zIn kd (m v0 15) 0 v8 ∧ (((m (m v0 15) v8) ≠ v6 → (∃ q1, CtI d M_Mo_truth [(0, 0)] kd m q1 ∧ ∀ x2 m3, q1 x2 m3 → (Ev (d + 1) M_Mo_ways 0 0 35 [(2, v0), (0, v1), (0, v2), (1, v3), zJ, (0, v5), (0, v6), (0, iw (v7 + x2)), (0, iw (v8 + 1)), zJ] [] kd m3 (zqL kd q)))) ∧ (¬ (m (m v0 15) v8) ≠ v6 → ((s0 = 0 → (∃ q4, CtI d M_Mo_truth [(0, 0)] kd m q4 ∧ ∀ x5 m6, q4 x5 m6 → (Ev (d + 1) M_Mo_ways 0 0 35 [(2, v0), (0, v1), (0, v2), (1, v3), zJ, (0, v5), (0, v6), (0, iw (v7 + x5)), (0, iw (v8 + 1)), zJ] [] kd m6 (zqL kd q)))) ∧ (¬ s0 = 0 → (∃ q7, CtI d M_Mo_truth [(0, 1)] kd m q7 ∧ ∀ x8 m9, q7 x8 m9 → (Ev (d + 1) M_Mo_ways 0 0 35 [(2, v0), (0, v1), (0, v2), (1, v3), zJ, (0, v5), (0, v6), (0, iw (v7 + x8)), (0, iw (v8 + 1)), zJ] [] kd m9 (zqL kd q))))))))) : Ev (d + 1) M_Mo_ways 0 0 74 [(2, v0), (0, v1), (0, v2), (1, v3), zJ, (0, v5), (0, v6), (0, v7), (0, v8), zJ] [(0, s0)] kd m (zqL kd q) := by
  obtain ⟨o1, o2, h⟩ := h
  refine EvX.blk (pc' := 87) [(.istore 9, 0, 0), (.iload 7, 0, 0), (.aload_n 0, 0, 0), (.getfield 39, 8, 15), (.iload 8, 0, 0), (.iaload, 0, 0), (.iload 6, 0, 0)] (by decide +kernel) ⟨g_Mo_39, trivial⟩ ⟨o1, o2, ?_⟩
  show Ev (d + 1) M_Mo_ways 0 0 87 [(2, v0), (0, v1), (0, v2), (1, v3), zJ, (0, v5), (0, v6), (0, v7), (0, v8), (0, s0)] [(0, v6), (0, m (m v0 15) v8), (0, v7)] kd m (zqL kd q)
  refine EvX.icmp_ne (off := 12) (tgt := 99) (by decide +kernel) (by decide) (fun hc => ?_) (fun hc => ?_)
  · have h := h.1 hc
    refine EvX.blk (pc' := 100) [(.iconst 0, 0, 0)] (by decide +kernel) trivial ?_
    show Ev (d + 1) M_Mo_ways 0 0 100 [(2, v0), (0, v1), (0, v2), (1, v3), zJ, (0, v5), (0, v6), (0, v7), (0, v8), (0, s0)] [(0, 0), (0, v7)] kd m (zqL kd q)
    obtain ⟨q1, hq, h⟩ := h
    refine EvX.callS (mc := 0) (ms := 0) (as := [(0, 0)]) (st := [(0, v7)]) (by decide +kernel) l_Mo_204 k_Mo_truth s_Mo_truth a_Mo_truth (by decide) (Nat.le_of_ble_eq_true rfl) hq (fun r kd1 m3 hr => ?_)
    obtain ⟨x2, rfl, hk, hr⟩ := hr
    subst kd1
    have h := h x2 m3 hr
    show Ev (d + 1) M_Mo_ways 0 0 103 [(2, v0), (0, v1), (0, v2), (1, v3), zJ, (0, v5), (0, v6), (0, v7), (0, v8), (0, s0)] [(0, x2), (0, v7)] kd m3 (zqL kd q)
    refine EvX.blk (pc' := 109) [(.iadd, 0, 0), (.istore 7, 0, 0), (.iinc 8 1, 0, 0)] (by decide +kernel) trivial ?_
    show Ev (d + 1) M_Mo_ways 0 0 109 [(2, v0), (0, v1), (0, v2), (1, v3), zJ, (0, v5), (0, v6), (0, iw (v7 + x2)), (0, iw (v8 + 1)), (0, s0)] [] kd m3 (zqL kd q)
    refine EvX.goto (off := (-74)) (tgt := 35) (by decide +kernel) (by decide) ?_
    exact EvX.weak (ls2 := [(2, v0), (0, v1), (0, v2), (1, v3), zJ, (0, v5), (0, v6), (0, iw (v7 + x2)), (0, iw (v8 + 1)), zJ]) (zwk_of ⟨Or.inr rfl, Or.inr rfl, Or.inr rfl, Or.inr rfl, Or.inl rfl, Or.inr rfl, Or.inr rfl, Or.inr rfl, Or.inr rfl, Or.inl rfl, trivial⟩) h
  · have h := h.2 hc
    refine EvX.blk (pc' := 92) [(.iload 9, 0, 0)] (by decide +kernel) trivial ?_
    show Ev (d + 1) M_Mo_ways 0 0 92 [(2, v0), (0, v1), (0, v2), (1, v3), zJ, (0, v5), (0, v6), (0, v7), (0, v8), (0, s0)] [(0, s0), (0, v7)] kd m (zqL kd q)
    refine EvX.if_eq (off := 7) (tgt := 99) (by decide +kernel) (by decide) (fun hc => ?_) (fun hc => ?_)
    · have h := h.1 hc
      refine EvX.blk (pc' := 100) [(.iconst 0, 0, 0)] (by decide +kernel) trivial ?_
      show Ev (d + 1) M_Mo_ways 0 0 100 [(2, v0), (0, v1), (0, v2), (1, v3), zJ, (0, v5), (0, v6), (0, v7), (0, v8), (0, s0)] [(0, 0), (0, v7)] kd m (zqL kd q)
      obtain ⟨q4, hq, h⟩ := h
      refine EvX.callS (mc := 0) (ms := 0) (as := [(0, 0)]) (st := [(0, v7)]) (by decide +kernel) l_Mo_204 k_Mo_truth s_Mo_truth a_Mo_truth (by decide) (Nat.le_of_ble_eq_true rfl) hq (fun r kd1 m6 hr => ?_)
      obtain ⟨x5, rfl, hk, hr⟩ := hr
      subst kd1
      have h := h x5 m6 hr
      show Ev (d + 1) M_Mo_ways 0 0 103 [(2, v0), (0, v1), (0, v2), (1, v3), zJ, (0, v5), (0, v6), (0, v7), (0, v8), (0, s0)] [(0, x5), (0, v7)] kd m6 (zqL kd q)
      refine EvX.blk (pc' := 109) [(.iadd, 0, 0), (.istore 7, 0, 0), (.iinc 8 1, 0, 0)] (by decide +kernel) trivial ?_
      show Ev (d + 1) M_Mo_ways 0 0 109 [(2, v0), (0, v1), (0, v2), (1, v3), zJ, (0, v5), (0, v6), (0, iw (v7 + x5)), (0, iw (v8 + 1)), (0, s0)] [] kd m6 (zqL kd q)
      refine EvX.goto (off := (-74)) (tgt := 35) (by decide +kernel) (by decide) ?_
      exact EvX.weak (ls2 := [(2, v0), (0, v1), (0, v2), (1, v3), zJ, (0, v5), (0, v6), (0, iw (v7 + x5)), (0, iw (v8 + 1)), zJ]) (zwk_of ⟨Or.inr rfl, Or.inr rfl, Or.inr rfl, Or.inr rfl, Or.inl rfl, Or.inr rfl, Or.inr rfl, Or.inr rfl, Or.inr rfl, Or.inl rfl, trivial⟩) h
    · have h := h.2 hc
      refine EvX.blk (pc' := 96) [(.iconst 1, 0, 0)] (by decide +kernel) trivial ?_
      show Ev (d + 1) M_Mo_ways 0 0 96 [(2, v0), (0, v1), (0, v2), (1, v3), zJ, (0, v5), (0, v6), (0, v7), (0, v8), (0, s0)] [(0, 1), (0, v7)] kd m (zqL kd q)
      refine EvX.goto (off := 4) (tgt := 100) (by decide +kernel) (by decide) ?_
      obtain ⟨q7, hq, h⟩ := h
      refine EvX.callS (mc := 0) (ms := 0) (as := [(0, 1)]) (st := [(0, v7)]) (by decide +kernel) l_Mo_204 k_Mo_truth s_Mo_truth a_Mo_truth (by decide) (Nat.le_of_ble_eq_true rfl) hq (fun r kd1 m9 hr => ?_)
      obtain ⟨x8, rfl, hk, hr⟩ := hr
      subst kd1
      have h := h x8 m9 hr
      show Ev (d + 1) M_Mo_ways 0 0 103 [(2, v0), (0, v1), (0, v2), (1, v3), zJ, (0, v5), (0, v6), (0, v7), (0, v8), (0, s0)] [(0, x8), (0, v7)] kd m9 (zqL kd q)
      refine EvX.blk (pc' := 109) [(.iadd, 0, 0), (.istore 7, 0, 0), (.iinc 8 1, 0, 0)] (by decide +kernel) trivial ?_
      show Ev (d + 1) M_Mo_ways 0 0 109 [(2, v0), (0, v1), (0, v2), (1, v3), zJ, (0, v5), (0, v6), (0, iw (v7 + x8)), (0, iw (v8 + 1)), (0, s0)] [] kd m9 (zqL kd q)
      refine EvX.goto (off := (-74)) (tgt := 35) (by decide +kernel) (by decide) ?_
      exact EvX.weak (ls2 := [(2, v0), (0, v1), (0, v2), (1, v3), zJ, (0, v5), (0, v6), (0, iw (v7 + x8)), (0, iw (v8 + 1)), zJ]) (zwk_of ⟨Or.inr rfl, Or.inr rfl, Or.inr rfl, Or.inr rfl, Or.inl rfl, Or.inr rfl, Or.inr rfl, Or.inr rfl, Or.inr rfl, Or.inl rfl, trivial⟩) h
set_option maxRecDepth 20000 in
set_option maxHeartbeats 1000000 in
theorem T_Mo_allWays_0 {d : Nat} {kd : ZK} {m : ZM} {q : Int → ZM → Prop} {v0 v1 v2 : Int} (h : (zobj kd v0 8 ∧ ∃ q1, CtI d M_Mo_mostWorth [(2, v0)] kd m q1 ∧ ∀ x2 m3, q1 x2 m3 → (zobj kd v0 8 ∧ ∃ q4, CtV d M_Mo_laysFirst [(2, v0), (0, 0)] kd m3 q4 ∧ ∀ m6, q4 m6 → (Ev (d + 1) M_Mo_allWays 0 0 16 [(2, v0), (0, v1), (0, v2), (0, x2), (1, 0), zJ, (0, 1)] [] kd m6 (zqL kd q))))) : Ev (d + 1) M_Mo_allWays 0 0 0 [(2, v0), (0, v1), (0, v2), zJ, zJ, zJ, zJ] [] kd m (zqL kd q) := by
  refine EvX.blk (pc' := 1) [(.aload_n 0, 0, 0)] (by decide +kernel) trivial ?_
  show Ev (d + 1) M_Mo_allWays 0 0 1 [(2, v0), (0, v1), (0, v2), zJ, zJ, zJ, zJ] [(2, v0)] kd m (zqL kd q)
  obtain ⟨ov, h⟩ := h
  obtain ⟨q1, hq, h⟩ := h
  refine EvX.callV (c := 8) (mc := 0) (ms := 0) (as := []) (st := []) (by decide +kernel) l_Mo_281 k_Mo_mostWorth v_Mo_mostWorth a_Mo_mostWorth (by decide) (Nat.le_of_ble_eq_true rfl) rfl ov hq (fun r kd1 m3 hr => ?_)
  obtain ⟨x2, rfl, hk, hr⟩ := hr
  subst kd1
  have h := h x2 m3 hr
  show Ev (d + 1) M_Mo_allWays 0 0 4 [(2, v0), (0, v1), (0, v2), zJ, zJ, zJ, zJ] [(0, x2)] kd m3 (zqL kd q)
  refine EvX.blk (pc' := 10) [(.istore_n 3, 0, 0), (.lconst 0, 0, 0), (.lstore 4, 0, 0), (.aload_n 0, 0, 0), (.iconst 0, 0, 0)] (by decide +kernel) trivial ?_
  show Ev (d + 1) M_Mo_allWays 0 0 10 [(2, v0), (0, v1), (0, v2), (0, x2), (1, 0), zJ, zJ] [(0, 0), (2, v0)] kd m3 (zqL kd q)
  obtain ⟨ov, h⟩ := h
  obtain ⟨q4, hq, h⟩ := h
  refine EvX.callV (c := 8) (mc := 0) (ms := 0) (as := [(0, 0)]) (st := []) (by decide +kernel) l_Mo_265 k_Mo_laysFirst v_Mo_laysFirst a_Mo_laysFirst (by decide) (Nat.le_of_ble_eq_true rfl) rfl ov hq (fun r kd1 m6 hr => ?_)
  obtain ⟨rfl, hk, hr⟩ := hr
  subst kd1
  have h := h m6 hr
  show Ev (d + 1) M_Mo_allWays 0 0 13 [(2, v0), (0, v1), (0, v2), (0, x2), (1, 0), zJ, zJ] [] kd m6 (zqL kd q)
  refine EvX.blk (pc' := 16) [(.iconst 1, 0, 0), (.istore 6, 0, 0)] (by decide +kernel) trivial ?_
  show Ev (d + 1) M_Mo_allWays 0 0 16 [(2, v0), (0, v1), (0, v2), (0, x2), (1, 0), zJ, (0, 1)] [] kd m6 (zqL kd q)
  exact h
theorem S_Mo_allWays {d : Nat} {kd : ZK} {m : ZM} {q : Int → ZM → Prop} {v0 v1 v2 : Int} (h : (zobj kd v0 8 ∧ ∃ q1, CtI d M_Mo_mostWorth [(2, v0)] kd m q1 ∧ ∀ x2 m3, q1 x2 m3 → (zobj kd v0 8 ∧ ∃ q4, CtV d M_Mo_laysFirst [(2, v0), (0, 0)] kd m3 q4 ∧ ∀ m6, q4 m6 → (Ev (d + 1) M_Mo_allWays 0 0 16 [(2, v0), (0, v1), (0, v2), (0, x2), (1, 0), zJ, (0, 1)] [] kd m6 (zqL kd q))))) : CtL (d + 1) M_Mo_allWays [(2, v0), (0, v1), (0, v2)] kd m q :=
  Ct.start k_Mo_allWays (Nat.le_of_ble_eq_true rfl) ⟨3, Or.inr (Or.inr (Or.inr (Or.inl ⟨rfl, rfl⟩)))⟩ (T_Mo_allWays_0 h)
set_option maxRecDepth 20000 in
set_option maxHeartbeats 1000000 in
theorem T_Mo_allWays_16 {d : Nat} {kd : ZK} {m : ZM} {q : Int → ZM → Prop} {v0 v1 v2 v3 v4 v6 : Int} (h : ((v6 = 0 → q v4 m) ∧ (¬ v6 = 0 → (zobj kd v0 8 ∧ ∃ q1, CtI d M_Mo_reached [(2, v0), (0, 0), (0, 1)] kd m q1 ∧ ∀ x2 m3, q1 x2 m3 → ((x2 ≠ v3 → (zobj kd v0 8 ∧ ∃ q4, CtI d M_Mo_goesOn [(2, v0), (0, 0)] kd m3 q4 ∧ ∀ x5 m6, q4 x5 m6 → (Ev (d + 1) M_Mo_allWays 0 0 16 [(2, v0), (0, v1), (0, v2), (0, v3), (1, lw64 (v4 + 0)), zJ, (0, x5)] [] kd m6 (zqL kd q)))) ∧ (¬ x2 ≠ v3 → (zobj kd v0 8 ∧ ∃ q7, CtL d M_Mo_ways [(2, v0), (0, v1), (0, v2)] kd m3 q7 ∧ ∀ x8 m9, q7 x8 m9 → (zobj kd v0 8 ∧ ∃ q10, CtI d M_Mo_goesOn [(2, v0), (0, 0)] kd m9 q10 ∧ ∀ x11 m12, q10 x11 m12 → (Ev (d + 1) M_Mo_allWays 0 0 16 [(2, v0), (0, v1), (0, v2), (0, v3), (1, lw64 (v4 + x8)), zJ, (0, x11)] [] kd m12 (zqL kd q)))))))))) : Ev (d + 1) M_Mo_allWays 0 0 16 [(2, v0), (0, v1), (0, v2), (0, v3), (1, v4), zJ, (0, v6)] [] kd m (zqL kd q) := by
  refine EvX.blk (pc' := 18) [(.iload 6, 0, 0)] (by decide +kernel) trivial ?_
  show Ev (d + 1) M_Mo_allWays 0 0 18 [(2, v0), (0, v1), (0, v2), (0, v3), (1, v4), zJ, (0, v6)] [(0, v6)] kd m (zqL kd q)
  refine EvX.if_eq (off := 38) (tgt := 56) (by decide +kernel) (by decide) (fun hc => ?_) (fun hc => ?_)
  · have h := h.1 hc
    refine EvX.blk (pc' := 58) [(.lload 4, 0, 0)] (by decide +kernel) trivial ?_
    show Ev (d + 1) M_Mo_allWays 0 0 58 [(2, v0), (0, v1), (0, v2), (0, v3), (1, v4), zJ, (0, v6)] [(1, v4)] kd m (zqL kd q)
    exact EvX.ret (r := (1, v4)) (by decide +kernel) rfl ⟨_, rfl, rfl, h⟩
  · have h := h.2 hc
    refine EvX.blk (pc' := 26) [(.lload 4, 0, 0), (.aload_n 0, 0, 0), (.iconst 0, 0, 0), (.iconst 1, 0, 0)] (by decide +kernel) trivial ?_
    show Ev (d + 1) M_Mo_allWays 0 0 26 [(2, v0), (0, v1), (0, v2), (0, v3), (1, v4), zJ, (0, v6)] [(0, 1), (0, 0), (2, v0), (1, v4)] kd m (zqL kd q)
    obtain ⟨ov, h⟩ := h
    obtain ⟨q1, hq, h⟩ := h
    refine EvX.callV (c := 8) (mc := 0) (ms := 0) (as := [(0, 0), (0, 1)]) (st := [(1, v4)]) (by decide +kernel) l_Mo_268 k_Mo_reached v_Mo_reached a_Mo_reached (by decide) (Nat.le_of_ble_eq_true rfl) rfl ov hq (fun r kd1 m3 hr => ?_)
    obtain ⟨x2, rfl, hk, hr⟩ := hr
    subst kd1
    have h := h x2 m3 hr
    show Ev (d + 1) M_Mo_allWays 0 0 29 [(2, v0), (0, v1), (0, v2), (0, v3), (1, v4), zJ, (0, v6)] [(0, x2), (1, v4)] kd m3 (zqL kd q)
    refine EvX.blk (pc' := 30) [(.iload_n 3, 0, 0)] (by decide +kernel) trivial ?_
    show Ev (d + 1) M_Mo_allWays 0 0 30 [(2, v0), (0, v1), (0, v2), (0, v3), (1, v4), zJ, (0, v6)] [(0, v3), (0, x2), (1, v4)] kd m3 (zqL kd q)
    refine EvX.icmp_ne (off := 12) (tgt := 42) (by decide +kernel) (by decide) (fun hc => ?_) (fun hc => ?_)
    · have h := h.1 hc
      refine EvX.blk (pc' := 48) [(.lconst 0, 0, 0), (.ladd, 0, 0), (.lstore 4, 0, 0), (.aload_n 0, 0, 0), (.iconst 0, 0, 0)] (by decide +kernel) trivial ?_
      show Ev (d + 1) M_Mo_allWays 0 0 48 [(2, v0), (0, v1), (0, v2), (0, v3), (1, lw64 (v4 + 0)), zJ, (0, v6)] [(0, 0), (2, v0)] kd m3 (zqL kd q)
      obtain ⟨ov, h⟩ := h
      obtain ⟨q4, hq, h⟩ := h
      refine EvX.callV (c := 8) (mc := 0) (ms := 0) (as := [(0, 0)]) (st := []) (by decide +kernel) l_Mo_272 k_Mo_goesOn v_Mo_goesOn a_Mo_goesOn (by decide) (Nat.le_of_ble_eq_true rfl) rfl ov hq (fun r kd1 m6 hr => ?_)
      obtain ⟨x5, rfl, hk, hr⟩ := hr
      subst kd1
      have h := h x5 m6 hr
      show Ev (d + 1) M_Mo_allWays 0 0 51 [(2, v0), (0, v1), (0, v2), (0, v3), (1, lw64 (v4 + 0)), zJ, (0, v6)] [(0, x5)] kd m6 (zqL kd q)
      refine EvX.blk (pc' := 53) [(.istore 6, 0, 0)] (by decide +kernel) trivial ?_
      show Ev (d + 1) M_Mo_allWays 0 0 53 [(2, v0), (0, v1), (0, v2), (0, v3), (1, lw64 (v4 + 0)), zJ, (0, x5)] [] kd m6 (zqL kd q)
      refine EvX.goto (off := (-37)) (tgt := 16) (by decide +kernel) (by decide) ?_
      exact h
    · have h := h.2 hc
      refine EvX.blk (pc' := 36) [(.aload_n 0, 0, 0), (.iload_n 1, 0, 0), (.iload_n 2, 0, 0)] (by decide +kernel) trivial ?_
      show Ev (d + 1) M_Mo_allWays 0 0 36 [(2, v0), (0, v1), (0, v2), (0, v3), (1, v4), zJ, (0, v6)] [(0, v2), (0, v1), (2, v0), (1, v4)] kd m3 (zqL kd q)
      obtain ⟨ov, h⟩ := h
      obtain ⟨q7, hq, h⟩ := h
      refine EvX.callV (c := 8) (mc := 0) (ms := 0) (as := [(0, v1), (0, v2)]) (st := [(1, v4)]) (by decide +kernel) l_Mo_299 k_Mo_ways v_Mo_ways a_Mo_ways (by decide) (Nat.le_of_ble_eq_true rfl) rfl ov hq (fun r kd1 m9 hr => ?_)
      obtain ⟨x8, rfl, hk, hr⟩ := hr
      subst kd1
      have h := h x8 m9 hr
      show Ev (d + 1) M_Mo_allWays 0 0 39 [(2, v0), (0, v1), (0, v2), (0, v3), (1, v4), zJ, (0, v6)] [(1, x8), (1, v4)] kd m9 (zqL kd q)
      refine EvX.goto (off := 4) (tgt := 43) (by decide +kernel) (by decide) ?_
      refine EvX.blk (pc' := 48) [(.ladd, 0, 0), (.lstore 4, 0, 0), (.aload_n 0, 0, 0), (.iconst 0, 0, 0)] (by decide +kernel) trivial ?_
      show Ev (d + 1) M_Mo_allWays 0 0 48 [(2, v0), (0, v1), (0, v2), (0, v3), (1, lw64 (v4 + x8)), zJ, (0, v6)] [(0, 0), (2, v0)] kd m9 (zqL kd q)
      obtain ⟨ov, h⟩ := h
      obtain ⟨q10, hq, h⟩ := h
      refine EvX.callV (c := 8) (mc := 0) (ms := 0) (as := [(0, 0)]) (st := []) (by decide +kernel) l_Mo_272 k_Mo_goesOn v_Mo_goesOn a_Mo_goesOn (by decide) (Nat.le_of_ble_eq_true rfl) rfl ov hq (fun r kd1 m12 hr => ?_)
      obtain ⟨x11, rfl, hk, hr⟩ := hr
      subst kd1
      have h := h x11 m12 hr
      show Ev (d + 1) M_Mo_allWays 0 0 51 [(2, v0), (0, v1), (0, v2), (0, v3), (1, lw64 (v4 + x8)), zJ, (0, v6)] [(0, x11)] kd m12 (zqL kd q)
      refine EvX.blk (pc' := 53) [(.istore 6, 0, 0)] (by decide +kernel) trivial ?_
      show Ev (d + 1) M_Mo_allWays 0 0 53 [(2, v0), (0, v1), (0, v2), (0, v3), (1, lw64 (v4 + x8)), zJ, (0, x11)] [] kd m12 (zqL kd q)
      refine EvX.goto (off := (-37)) (tgt := 16) (by decide +kernel) (by decide) ?_
      exact h
set_option maxRecDepth 20000 in
set_option maxHeartbeats 1000000 in
theorem T_Mo_bests_0 {d : Nat} {kd : ZK} {m : ZM} {q : Int → ZM → Prop} {v0 : Int} (h : (zobj kd v0 8 ∧ ∃ q1, CtI d M_Mo_hasGame [(2, v0)] kd m q1 ∧ ∀ x2 m3, q1 x2 m3 → ((x2 = 0 → q (-1) m3) ∧ (¬ x2 = 0 → (zobj kd v0 8 ∧ ∃ q4, CtL d M_Mo_allWays [(2, v0), (0, (-1)), (0, (-1))] kd m3 q4 ∧ ∀ x5 m6, q4 x5 m6 → q x5 m6))))) : Ev (d + 1) M_Mo_bests 0 0 0 [(2, v0)] [] kd m (zqL kd q) := by
  refine EvX.blk (pc' := 1) [(.aload_n 0, 0, 0)] (by decide +kernel) trivial ?_
  show Ev (d + 1) M_Mo_bests 0 0 1 [(2, v0)] [(2, v0)] kd m (zqL kd q)
  obtain ⟨ov, h⟩ := h
  obtain ⟨q1, hq, h⟩ := h
  refine EvX.callV (c := 8) (mc := 0) (ms := 0) (as := []) (st := []) (by decide +kernel) l_Mo_215 k_Mo_hasGame v_Mo_hasGame a_Mo_hasGame (by decide) (Nat.le_of_ble_eq_true rfl) rfl ov hq (fun r kd1 m3 hr => ?_)
  obtain ⟨x2, rfl, hk, hr⟩ := hr
  subst kd1
  have h := h x2 m3 hr
  show Ev (d + 1) M_Mo_bests 0 0 4 [(2, v0)] [(0, x2)] kd m3 (zqL kd q)
  refine EvX.if_eq (off := 12) (tgt := 16) (by decide +kernel) (by decide) (fun hc => ?_) (fun hc => ?_)
  · have h := h.1 hc
    refine EvX.blk (pc' := 19) [(.ldc2_w 306, 0, (-1))] (by decide +kernel) ⟨z_Mo_306, trivial⟩ ?_
    show Ev (d + 1) M_Mo_bests 0 0 19 [(2, v0)] [(1, (-1))] kd m3 (zqL kd q)
    exact EvX.ret (r := (1, (-1))) (by decide +kernel) rfl ⟨_, rfl, rfl, h⟩
  · have h := h.2 hc
    refine EvX.blk (pc' := 10) [(.aload_n 0, 0, 0), (.iconst (-1), 0, 0), (.iconst (-1), 0, 0)] (by decide +kernel) trivial ?_
    show Ev (d + 1) M_Mo_bests 0 0 10 [(2, v0)] [(0, (-1)), (0, (-1)), (2, v0)] kd m3 (zqL kd q)
    obtain ⟨ov, h⟩ := h
    obtain ⟨q4, hq, h⟩ := h
    refine EvX.callV (c := 8) (mc := 0) (ms := 0) (as := [(0, (-1)), (0, (-1))]) (st := []) (by decide +kernel) l_Mo_303 k_Mo_allWays v_Mo_allWays a_Mo_allWays (by decide) (Nat.le_of_ble_eq_true rfl) rfl ov hq (fun r kd1 m6 hr => ?_)
    obtain ⟨x5, rfl, hk, hr⟩ := hr
    subst kd1
    have h := h x5 m6 hr
    show Ev (d + 1) M_Mo_bests 0 0 13 [(2, v0)] [(1, x5)] kd m6 (zqL kd q)
    refine EvX.goto (off := 6) (tgt := 19) (by decide +kernel) (by decide) ?_
    exact EvX.ret (r := (1, x5)) (by decide +kernel) rfl ⟨_, rfl, rfl, h⟩
theorem S_Mo_bests {d : Nat} {kd : ZK} {m : ZM} {q : Int → ZM → Prop} {v0 : Int} (h : (zobj kd v0 8 ∧ ∃ q1, CtI d M_Mo_hasGame [(2, v0)] kd m q1 ∧ ∀ x2 m3, q1 x2 m3 → ((x2 = 0 → q (-1) m3) ∧ (¬ x2 = 0 → (zobj kd v0 8 ∧ ∃ q4, CtL d M_Mo_allWays [(2, v0), (0, (-1)), (0, (-1))] kd m3 q4 ∧ ∀ x5 m6, q4 x5 m6 → q x5 m6))))) : CtL (d + 1) M_Mo_bests [(2, v0)] kd m q :=
  Ct.start k_Mo_bests (Nat.le_of_ble_eq_true rfl) ⟨3, Or.inr (Or.inr (Or.inr (Or.inl ⟨rfl, rfl⟩)))⟩ (T_Mo_bests_0 h)
set_option maxRecDepth 20000 in
set_option maxHeartbeats 1000000 in
theorem T_Mo_lost_0 {d : Nat} {kd : ZK} {m : ZM} {q : Int → ZM → Prop} {v0 v1 v2 : Int} (h : (zobj kd v0 8 ∧ ∃ q1, CtI d M_Mo_areTwo [(2, v0), (0, v1), (0, v2)] kd m q1 ∧ ∀ x2 m3, q1 x2 m3 → ((x2 = 0 → q (-1) m3) ∧ (¬ x2 = 0 → (zobj kd v0 8 ∧ ∃ q4, CtL d M_Mo_allWays [(2, v0), (0, v1), (0, v2)] kd m3 q4 ∧ ∀ x5 m6, q4 x5 m6 → q x5 m6))))) : Ev (d + 1) M_Mo_lost 0 0 0 [(2, v0), (0, v1), (0, v2)] [] kd m (zqL kd q) := by
  refine EvX.blk (pc' := 3) [(.aload_n 0, 0, 0), (.iload_n 1, 0, 0), (.iload_n 2, 0, 0)] (by decide +kernel) trivial ?_
  show Ev (d + 1) M_Mo_lost 0 0 3 [(2, v0), (0, v1), (0, v2)] [(0, v2), (0, v1), (2, v0)] kd m (zqL kd q)
  obtain ⟨ov, h⟩ := h
  obtain ⟨q1, hq, h⟩ := h
  refine EvX.callV (c := 8) (mc := 0) (ms := 0) (as := [(0, v1), (0, v2)]) (st := []) (by decide +kernel) l_Mo_174 k_Mo_areTwo v_Mo_areTwo a_Mo_areTwo (by decide) (Nat.le_of_ble_eq_true rfl) rfl ov hq (fun r kd1 m3 hr => ?_)
  obtain ⟨x2, rfl, hk, hr⟩ := hr
  subst kd1
  have h := h x2 m3 hr
  show Ev (d + 1) M_Mo_lost 0 0 6 [(2, v0), (0, v1), (0, v2)] [(0, x2)] kd m3 (zqL kd q)
  refine EvX.if_eq (off := 12) (tgt := 18) (by decide +kernel) (by decide) (fun hc => ?_) (fun hc => ?_)
  · have h := h.1 hc
    refine EvX.blk (pc' := 21) [(.ldc2_w 306, 0, (-1))] (by decide +kernel) ⟨z_Mo_306, trivial⟩ ?_
    show Ev (d + 1) M_Mo_lost 0 0 21 [(2, v0), (0, v1), (0, v2)] [(1, (-1))] kd m3 (zqL kd q)
    exact EvX.ret (r := (1, (-1))) (by decide +kernel) rfl ⟨_, rfl, rfl, h⟩
  · have h := h.2 hc
    refine EvX.blk (pc' := 12) [(.aload_n 0, 0, 0), (.iload_n 1, 0, 0), (.iload_n 2, 0, 0)] (by decide +kernel) trivial ?_
    show Ev (d + 1) M_Mo_lost 0 0 12 [(2, v0), (0, v1), (0, v2)] [(0, v2), (0, v1), (2, v0)] kd m3 (zqL kd q)
    obtain ⟨ov, h⟩ := h
    obtain ⟨q4, hq, h⟩ := h
    refine EvX.callV (c := 8) (mc := 0) (ms := 0) (as := [(0, v1), (0, v2)]) (st := []) (by decide +kernel) l_Mo_303 k_Mo_allWays v_Mo_allWays a_Mo_allWays (by decide) (Nat.le_of_ble_eq_true rfl) rfl ov hq (fun r kd1 m6 hr => ?_)
    obtain ⟨x5, rfl, hk, hr⟩ := hr
    subst kd1
    have h := h x5 m6 hr
    show Ev (d + 1) M_Mo_lost 0 0 15 [(2, v0), (0, v1), (0, v2)] [(1, x5)] kd m6 (zqL kd q)
    refine EvX.goto (off := 6) (tgt := 21) (by decide +kernel) (by decide) ?_
    exact EvX.ret (r := (1, x5)) (by decide +kernel) rfl ⟨_, rfl, rfl, h⟩
theorem S_Mo_lost {d : Nat} {kd : ZK} {m : ZM} {q : Int → ZM → Prop} {v0 v1 v2 : Int} (h : (zobj kd v0 8 ∧ ∃ q1, CtI d M_Mo_areTwo [(2, v0), (0, v1), (0, v2)] kd m q1 ∧ ∀ x2 m3, q1 x2 m3 → ((x2 = 0 → q (-1) m3) ∧ (¬ x2 = 0 → (zobj kd v0 8 ∧ ∃ q4, CtL d M_Mo_allWays [(2, v0), (0, v1), (0, v2)] kd m3 q4 ∧ ∀ x5 m6, q4 x5 m6 → q x5 m6))))) : CtL (d + 1) M_Mo_lost [(2, v0), (0, v1), (0, v2)] kd m q :=
  Ct.start k_Mo_lost (Nat.le_of_ble_eq_true rfl) ⟨3, Or.inr (Or.inr (Or.inr (Or.inl ⟨rfl, rfl⟩)))⟩ (T_Mo_lost_0 h)
set_option maxRecDepth 20000 in
set_option maxHeartbeats 1000000 in
theorem T_Mo_laysBest_0 {d : Nat} {kd : ZK} {m : ZM} {q : ZM → Prop} {v0 v1 : Int} (h : (zobj kd v0 8 ∧ ∃ q1, CtL d M_Mo_ways [(2, v0), (0, (-1)), (0, (-1))] kd m q1 ∧ ∀ x2 m3, q1 x2 m3 → (Ev (d + 1) M_Mo_laysBest 0 0 13 [(2, v0), zJ, zJ, (1, v1), zJ, (1, x2), zJ, (0, 0), zJ, zJ, zJ, zJ] [] kd m3 (zqV kd q)))) : Ev (d + 1) M_Mo_laysBest 0 0 0 [(2, v0), (1, v1), zJ, zJ, zJ, zJ, zJ, zJ, zJ, zJ, zJ, zJ] [] kd m (zqV kd q) := by
  refine EvX.blk (pc' := 5) [(.lload_n 1, 0, 0), (.lstore_n 3, 0, 0), (.aload_n 0, 0, 0), (.iconst (-1), 0, 0), (.iconst (-1), 0, 0)] (by decide +kernel) trivial ?_
  show Ev (d + 1) M_Mo_laysBest 0 0 5 [(2, v0), (1, v1), zJ, (1, v1), zJ, zJ, zJ, zJ, zJ, zJ, zJ, zJ] [(0, (-1)), (0, (-1)), (2, v0)] kd m (zqV kd q)
  obtain ⟨ov, h⟩ := h
  obtain ⟨q1, hq, h⟩ := h
  refine EvX.callV (c := 8) (mc := 0) (ms := 0) (as := [(0, (-1)), (0, (-1))]) (st := []) (by decide +kernel) l_Mo_299 k_Mo_ways v_Mo_ways a_Mo_ways (by decide) (Nat.le_of_ble_eq_true rfl) rfl ov hq (fun r kd1 m3 hr => ?_)
  obtain ⟨x2, rfl, hk, hr⟩ := hr
  subst kd1
  have h := h x2 m3 hr
  show Ev (d + 1) M_Mo_laysBest 0 0 8 [(2, v0), (1, v1), zJ, (1, v1), zJ, zJ, zJ, zJ, zJ, zJ, zJ, zJ] [(1, x2)] kd m3 (zqV kd q)
  refine EvX.blk (pc' := 13) [(.lstore 5, 0, 0), (.iconst 0, 0, 0), (.istore 7, 0, 0)] (by decide +kernel) trivial ?_
  show Ev (d + 1) M_Mo_laysBest 0 0 13 [(2, v0), (1, v1), zJ, (1, v1), zJ, (1, x2), zJ, (0, 0), zJ, zJ, zJ, zJ] [] kd m3 (zqV kd q)
  exact EvX.weak (ls2 := [(2, v0), zJ, zJ, (1, v1), zJ, (1, x2), zJ, (0, 0), zJ, zJ, zJ, zJ]) (zwk_of ⟨Or.inr rfl, Or.inl rfl, Or.inl rfl, Or.inr rfl, Or.inl rfl, Or.inr rfl, Or.inl rfl, Or.inr rfl, Or.inl rfl, Or.inl rfl, Or.inl rfl, Or.inl rfl, trivial⟩) h
theorem S_Mo_laysBest {d : Nat} {kd : ZK} {m : ZM} {q : ZM → Prop} {v0 v1 : Int} (h : (zobj kd v0 8 ∧ ∃ q1, CtL d M_Mo_ways [(2, v0), (0, (-1)), (0, (-1))] kd m q1 ∧ ∀ x2 m3, q1 x2 m3 → (Ev (d + 1) M_Mo_laysBest 0 0 13 [(2, v0), zJ, zJ, (1, v1), zJ, (1, x2), zJ, (0, 0), zJ, zJ, zJ, zJ] [] kd m3 (zqV kd q)))) : CtV (d + 1) M_Mo_laysBest [(2, v0), (1, v1)] kd m q :=
  Ct.start k_Mo_laysBest (Nat.le_of_ble_eq_true rfl) ⟨0, Or.inl ⟨rfl, rfl⟩⟩ (T_Mo_laysBest_0 h)
set_option maxRecDepth 20000 in
set_option maxHeartbeats 1000000 in
theorem T_Mo_laysBest_13 {d : Nat} {kd : ZK} {m : ZM} {q : ZM → Prop} {v0 v3 v5 v7 : Int} (h : (zobj kd v0 8 ∧ ∃ q1, CtI d M_Mo_questions [(2, v0), (0, 1)] kd m q1 ∧ ∀ x2 m3, q1 x2 m3 → ((x2 ≤ v7 → q m3) ∧ (¬ x2 ≤ v7 → (zobj kd v0 8 ∧ ∃ q4, CtV d M_Mo_laysBy [(2, v0), (0, 0), (0, v7)] kd m3 q4 ∧ ∀ m6, q4 m6 → (zobj kd v0 8 ∧ ∃ q7, CtI d M_Mo_bestBy [(2, v0), (0, 0)] kd m6 q7 ∧ ∀ x8 m9, q7 x8 m9 → (Ev (d + 1) M_Mo_laysBest 0 0 43 [(2, v0), zJ, zJ, (1, v3), zJ, (1, v5), zJ, (0, v7), (0, x8), (0, 0), (0, 0), zJ] [] kd m9 (zqV kd q)))))))) : Ev (d + 1) M_Mo_laysBest 0 0 13 [(2, v0), zJ, zJ, (1, v3), zJ, (1, v5), zJ, (0, v7), zJ, zJ, zJ, zJ] [] kd m (zqV kd q) := by
  refine EvX.blk (pc' := 17) [(.iload 7, 0, 0), (.aload_n 0, 0, 0), (.iconst 1, 0, 0)] (by decide +kernel) trivial ?_
  show Ev (d + 1) M_Mo_laysBest 0 0 17 [(2, v0), zJ, zJ, (1, v3), zJ, (1, v5), zJ, (0, v7), zJ, zJ, zJ, zJ] [(0, 1), (2, v0), (0, v7)] kd m (zqV kd q)
  obtain ⟨ov, h⟩ := h
  obtain ⟨q1, hq, h⟩ := h
  refine EvX.callV (c := 8) (mc := 0) (ms := 0) (as := [(0, 1)]) (st := [(0, v7)]) (by decide +kernel) l_Mo_163 k_Mo_questions v_Mo_questions a_Mo_questions (by decide) (Nat.le_of_ble_eq_true rfl) rfl ov hq (fun r kd1 m3 hr => ?_)
  obtain ⟨x2, rfl, hk, hr⟩ := hr
  subst kd1
  have h := h x2 m3 hr
  show Ev (d + 1) M_Mo_laysBest 0 0 20 [(2, v0), zJ, zJ, (1, v3), zJ, (1, v5), zJ, (0, v7), zJ, zJ, zJ, zJ] [(0, x2), (0, v7)] kd m3 (zqV kd q)
  refine EvX.icmp_ge (off := 141) (tgt := 161) (by decide +kernel) (by decide) (fun hc => ?_) (fun hc => ?_)
  · have h := h.1 hc
    exact EvX.ret (r := zJ) (by decide +kernel) rfl ⟨rfl, rfl, h⟩
  · have h := h.2 hc
    refine EvX.blk (pc' := 27) [(.aload_n 0, 0, 0), (.iconst 0, 0, 0), (.iload 7, 0, 0)] (by decide +kernel) trivial ?_
    show Ev (d + 1) M_Mo_laysBest 0 0 27 [(2, v0), zJ, zJ, (1, v3), zJ, (1, v5), zJ, (0, v7), zJ, zJ, zJ, zJ] [(0, v7), (0, 0), (2, v0)] kd m3 (zqV kd q)
    obtain ⟨ov, h⟩ := h
    obtain ⟨q4, hq, h⟩ := h
    refine EvX.callV (c := 8) (mc := 0) (ms := 0) (as := [(0, 0), (0, v7)]) (st := []) (by decide +kernel) l_Mo_256 k_Mo_laysBy v_Mo_laysBy a_Mo_laysBy (by decide) (Nat.le_of_ble_eq_true rfl) rfl ov hq (fun r kd1 m6 hr => ?_)
    obtain ⟨rfl, hk, hr⟩ := hr
    subst kd1
    have h := h m6 hr
    show Ev (d + 1) M_Mo_laysBest 0 0 30 [(2, v0), zJ, zJ, (1, v3), zJ, (1, v5), zJ, (0, v7), zJ, zJ, zJ, zJ] [] kd m6 (zqV kd q)
    refine EvX.blk (pc' := 32) [(.aload_n 0, 0, 0), (.iconst 0, 0, 0)] (by decide +kernel) trivial ?_
    show Ev (d + 1) M_Mo_laysBest 0 0 32 [(2, v0), zJ, zJ, (1, v3), zJ, (1, v5), zJ, (0, v7), zJ, zJ, zJ, zJ] [(0, 0), (2, v0)] kd m6 (zqV kd q)
    obtain ⟨ov, h⟩ := h
    obtain ⟨q7, hq, h⟩ := h
    refine EvX.callV (c := 8) (mc := 0) (ms := 0) (as := [(0, 0)]) (st := []) (by decide +kernel) l_Mo_259 k_Mo_bestBy v_Mo_bestBy a_Mo_bestBy (by decide) (Nat.le_of_ble_eq_true rfl) rfl ov hq (fun r kd1 m9 hr => ?_)
    obtain ⟨x8, rfl, hk, hr⟩ := hr
    subst kd1
    have h := h x8 m9 hr
    show Ev (d + 1) M_Mo_laysBest 0 0 35 [(2, v0), zJ, zJ, (1, v3), zJ, (1, v5), zJ, (0, v7), zJ, zJ, zJ, zJ] [(0, x8)] kd m9 (zqV kd q)
    refine EvX.blk (pc' := 43) [(.istore 8, 0, 0), (.iconst 0, 0, 0), (.istore 9, 0, 0), (.iconst 0, 0, 0), (.istore 10, 0, 0)] (by decide +kernel) trivial ?_
    show Ev (d + 1) M_Mo_laysBest 0 0 43 [(2, v0), zJ, zJ, (1, v3), zJ, (1, v5), zJ, (0, v7), (0, x8), (0, 0), (0, 0), zJ] [] kd m9 (zqV kd q)
    exact h
set_option maxRecDepth 20000 in
set_option maxHeartbeats 1000000 in
theorem T_Mo_laysBest_43 {d : Nat} {kd : ZK} {m : ZM} {q : ZM → Prop} {v0 v3 v5 v7 v8 v9 v10 : Int} (h : (zobj kd v0 8 ∧ ∃ q1, CtI d M_Mo_answers [(2, v0), (0, 1)] kd m q1 ∧ ∀ x2 m3, q1 x2 m3 → ((x2 ≤ v10 → (v9 ≠ 0 ∧ (lw64 (Int.tdiv v5 v9)) ≠ 0 ∧ (lw64 (Int.tdiv v5 v9)) ≠ 0 ∧ (Ev (d + 1) M_Mo_laysBest 0 0 107 [(2, v0), zJ, zJ, (1, Int.tmod v3 (lw64 (Int.tdiv v5 v9))), zJ, (1, lw64 (Int.tdiv v5 v9)), zJ, (0, v7), (0, v8), zJ, (0, iw (lw64 (Int.tdiv v3 (lw64 (Int.tdiv v5 v9))))), (0, 0)] [] kd m3 (zqV kd q)))) ∧ (¬ x2 ≤ v10 → (zobj kd v0 8 ∧ zIn kd (m3 v0 15) 0 v10 ∧ (((m3 (m3 v0 15) v10) ≠ v8 → (∃ q4, CtI d M_Mo_truth [(0, 0)] kd m3 q4 ∧ ∀ x5 m6, q4 x5 m6 → (Ev (d + 1) M_Mo_laysBest 0 0 43 [(2, v0), zJ, zJ, (1, v3), zJ, (1, v5), zJ, (0, v7), (0, v8), (0, iw (v9 + x5)), (0, iw (v10 + 1)), zJ] [] kd m6 (zqV kd q)))) ∧ (¬ (m3 (m3 v0 15) v10) ≠ v8 → (∃ q7, CtI d M_Mo_truth [(0, 1)] kd m3 q7 ∧ ∀ x8 m9, q7 x8 m9 → (Ev (d + 1) M_Mo_laysBest 0 0 43 [(2, v0), zJ, zJ, (1, v3), zJ, (1, v5), zJ, (0, v7), (0, v8), (0, iw (v9 + x8)), (0, iw (v10 + 1)), zJ] [] kd m9 (zqV kd q)))))))))) : Ev (d + 1) M_Mo_laysBest 0 0 43 [(2, v0), zJ, zJ, (1, v3), zJ, (1, v5), zJ, (0, v7), (0, v8), (0, v9), (0, v10), zJ] [] kd m (zqV kd q) := by
  refine EvX.blk (pc' := 47) [(.iload 10, 0, 0), (.aload_n 0, 0, 0), (.iconst 1, 0, 0)] (by decide +kernel) trivial ?_
  show Ev (d + 1) M_Mo_laysBest 0 0 47 [(2, v0), zJ, zJ, (1, v3), zJ, (1, v5), zJ, (0, v7), (0, v8), (0, v9), (0, v10), zJ] [(0, 1), (2, v0), (0, v10)] kd m (zqV kd q)
  obtain ⟨ov, h⟩ := h
  obtain ⟨q1, hq, h⟩ := h
  refine EvX.callV (c := 8) (mc := 0) (ms := 0) (as := [(0, 1)]) (st := [(0, v10)]) (by decide +kernel) l_Mo_167 k_Mo_answers v_Mo_answers a_Mo_answers (by decide) (Nat.le_of_ble_eq_true rfl) rfl ov hq (fun r kd1 m3 hr => ?_)
  obtain ⟨x2, rfl, hk, hr⟩ := hr
  subst kd1
  have h := h x2 m3 hr
  show Ev (d + 1) M_Mo_laysBest 0 0 50 [(2, v0), zJ, zJ, (1, v3), zJ, (1, v5), zJ, (0, v7), (0, v8), (0, v9), (0, v10), zJ] [(0, x2), (0, v10)] kd m3 (zqV kd q)
  refine EvX.icmp_ge (off := 34) (tgt := 84) (by decide +kernel) (by decide) (fun hc => ?_) (fun hc => ?_)
  · have h := h.1 hc
    obtain ⟨o1, o2, o3, h⟩ := h
    refine EvX.blk (pc' := 107) [(.lload 5, 0, 0), (.iload 9, 0, 0), (.i2l, 0, 0), (.ldiv, 0, 0), (.lstore 5, 0, 0), (.lload_n 3, 0, 0), (.lload 5, 0, 0), (.ldiv, 0, 0), (.l2i, 0, 0), (.istore 10, 0, 0), (.lload_n 3, 0, 0), (.lload 5, 0, 0), (.lrem, 0, 0), (.lstore_n 3, 0, 0), (.iconst 0, 0, 0), (.istore 11, 0, 0)] (by decide +kernel) trivial ⟨o1, o2, o3, ?_⟩
    show Ev (d + 1) M_Mo_laysBest 0 0 107 [(2, v0), zJ, zJ, (1, Int.tmod v3 (lw64 (Int.tdiv v5 v9))), zJ, (1, lw64 (Int.tdiv v5 v9)), zJ, (0, v7), (0, v8), (0, v9), (0, iw (lw64 (Int.tdiv v3 (lw64 (Int.tdiv v5 v9))))), (0, 0)] [] kd m3 (zqV kd q)
    exact EvX.weak (ls2 := [(2, v0), zJ, zJ, (1, Int.tmod v3 (lw64 (Int.tdiv v5 v9))), zJ, (1, lw64 (Int.tdiv v5 v9)), zJ, (0, v7), (0, v8), zJ, (0, iw (lw64 (Int.tdiv v3 (lw64 (Int.tdiv v5 v9))))), (0, 0)]) (zwk_of ⟨Or.inr rfl, Or.inl rfl, Or.inl rfl, Or.inr rfl, Or.inl rfl, Or.inr rfl, Or.inl rfl, Or.inr rfl, Or.inr rfl, Or.inl rfl, Or.inr rfl, Or.inr rfl, trivial⟩) h
  · have h := h.2 hc
    obtain ⟨o1, o2, h⟩ := h
    refine EvX.blk (pc' := 64) [(.iload 9, 0, 0), (.aload_n 0, 0, 0), (.getfield 39, 8, 15), (.iload 10, 0, 0), (.iaload, 0, 0), (.iload 8, 0, 0)] (by decide +kernel) ⟨g_Mo_39, trivial⟩ ⟨o1, o2, ?_⟩
    show Ev (d + 1) M_Mo_laysBest 0 0 64 [(2, v0), zJ, zJ, (1, v3), zJ, (1, v5), zJ, (0, v7), (0, v8), (0, v9), (0, v10), zJ] [(0, v8), (0, m3 (m3 v0 15) v10), (0, v9)] kd m3 (zqV kd q)
    refine EvX.icmp_ne (off := 7) (tgt := 71) (by decide +kernel) (by decide) (fun hc => ?_) (fun hc => ?_)
    · have h := h.1 hc
      refine EvX.blk (pc' := 72) [(.iconst 0, 0, 0)] (by decide +kernel) trivial ?_
      show Ev (d + 1) M_Mo_laysBest 0 0 72 [(2, v0), zJ, zJ, (1, v3), zJ, (1, v5), zJ, (0, v7), (0, v8), (0, v9), (0, v10), zJ] [(0, 0), (0, v9)] kd m3 (zqV kd q)
      obtain ⟨q4, hq, h⟩ := h
      refine EvX.callS (mc := 0) (ms := 0) (as := [(0, 0)]) (st := [(0, v9)]) (by decide +kernel) l_Mo_204 k_Mo_truth s_Mo_truth a_Mo_truth (by decide) (Nat.le_of_ble_eq_true rfl) hq (fun r kd1 m6 hr => ?_)
      obtain ⟨x5, rfl, hk, hr⟩ := hr
      subst kd1
      have h := h x5 m6 hr
      show Ev (d + 1) M_Mo_laysBest 0 0 75 [(2, v0), zJ, zJ, (1, v3), zJ, (1, v5), zJ, (0, v7), (0, v8), (0, v9), (0, v10), zJ] [(0, x5), (0, v9)] kd m6 (zqV kd q)
      refine EvX.blk (pc' := 81) [(.iadd, 0, 0), (.istore 9, 0, 0), (.iinc 10 1, 0, 0)] (by decide +kernel) trivial ?_
      show Ev (d + 1) M_Mo_laysBest 0 0 81 [(2, v0), zJ, zJ, (1, v3), zJ, (1, v5), zJ, (0, v7), (0, v8), (0, iw (v9 + x5)), (0, iw (v10 + 1)), zJ] [] kd m6 (zqV kd q)
      refine EvX.goto (off := (-38)) (tgt := 43) (by decide +kernel) (by decide) ?_
      exact h
    · have h := h.2 hc
      refine EvX.blk (pc' := 68) [(.iconst 1, 0, 0)] (by decide +kernel) trivial ?_
      show Ev (d + 1) M_Mo_laysBest 0 0 68 [(2, v0), zJ, zJ, (1, v3), zJ, (1, v5), zJ, (0, v7), (0, v8), (0, v9), (0, v10), zJ] [(0, 1), (0, v9)] kd m3 (zqV kd q)
      refine EvX.goto (off := 4) (tgt := 72) (by decide +kernel) (by decide) ?_
      obtain ⟨q7, hq, h⟩ := h
      refine EvX.callS (mc := 0) (ms := 0) (as := [(0, 1)]) (st := [(0, v9)]) (by decide +kernel) l_Mo_204 k_Mo_truth s_Mo_truth a_Mo_truth (by decide) (Nat.le_of_ble_eq_true rfl) hq (fun r kd1 m9 hr => ?_)
      obtain ⟨x8, rfl, hk, hr⟩ := hr
      subst kd1
      have h := h x8 m9 hr
      show Ev (d + 1) M_Mo_laysBest 0 0 75 [(2, v0), zJ, zJ, (1, v3), zJ, (1, v5), zJ, (0, v7), (0, v8), (0, v9), (0, v10), zJ] [(0, x8), (0, v9)] kd m9 (zqV kd q)
      refine EvX.blk (pc' := 81) [(.iadd, 0, 0), (.istore 9, 0, 0), (.iinc 10 1, 0, 0)] (by decide +kernel) trivial ?_
      show Ev (d + 1) M_Mo_laysBest 0 0 81 [(2, v0), zJ, zJ, (1, v3), zJ, (1, v5), zJ, (0, v7), (0, v8), (0, iw (v9 + x8)), (0, iw (v10 + 1)), zJ] [] kd m9 (zqV kd q)
      refine EvX.goto (off := (-38)) (tgt := 43) (by decide +kernel) (by decide) ?_
      exact h
set_option maxRecDepth 20000 in
set_option maxHeartbeats 1000000 in
theorem T_Mo_laysBest_107 {d : Nat} {kd : ZK} {m : ZM} {q : ZM → Prop} {v0 v3 v5 v7 v8 v10 v11 : Int} (h : (zobj kd v0 8 ∧ ∃ q1, CtI d M_Mo_answers [(2, v0), (0, 1)] kd m q1 ∧ ∀ x2 m3, q1 x2 m3 → ((x2 ≤ v11 → (Ev (d + 1) M_Mo_laysBest 0 0 13 [(2, v0), zJ, zJ, (1, v3), zJ, (1, v5), zJ, (0, iw (v7 + 1)), zJ, zJ, zJ, zJ] [] kd m3 (zqV kd q))) ∧ (¬ x2 ≤ v11 → (zobj kd v0 8 ∧ zIn kd (m3 v0 15) 0 v11 ∧ (((m3 (m3 v0 15) v11) = v8 → ((v10 ≠ 0 → (Ev (d + 1) M_Mo_laysBest 0 0 107 [(2, v0), zJ, zJ, (1, v3), zJ, (1, v5), zJ, (0, v7), (0, v8), zJ, (0, iw (v10 + (-1))), (0, iw (v11 + 1))] [] kd m3 (zqV kd q))) ∧ (¬ v10 ≠ 0 → (zobj kd v0 8 ∧ zIn kd (m3 v0 13) 0 v7 ∧ (Ev (d + 1) M_Mo_laysBest 0 0 107 [(2, v0), zJ, zJ, (1, v3), zJ, (1, v5), zJ, (0, v7), (0, v8), zJ, (0, iw (v10 + (-1))), (0, iw (v11 + 1))] [] kd (zup m3 (m3 v0 13) v7 v11) (zqV kd q)))))) ∧ (¬ (m3 (m3 v0 15) v11) = v8 → (Ev (d + 1) M_Mo_laysBest 0 0 107 [(2, v0), zJ, zJ, (1, v3), zJ, (1, v5), zJ, (0, v7), (0, v8), zJ, (0, v10), (0, iw (v11 + 1))] [] kd m3 (zqV kd q))))))))) : Ev (d + 1) M_Mo_laysBest 0 0 107 [(2, v0), zJ, zJ, (1, v3), zJ, (1, v5), zJ, (0, v7), (0, v8), zJ, (0, v10), (0, v11)] [] kd m (zqV kd q) := by
  refine EvX.blk (pc' := 111) [(.iload 11, 0, 0), (.aload_n 0, 0, 0), (.iconst 1, 0, 0)] (by decide +kernel) trivial ?_
  show Ev (d + 1) M_Mo_laysBest 0 0 111 [(2, v0), zJ, zJ, (1, v3), zJ, (1, v5), zJ, (0, v7), (0, v8), zJ, (0, v10), (0, v11)] [(0, 1), (2, v0), (0, v11)] kd m (zqV kd q)
  obtain ⟨ov, h⟩ := h
  obtain ⟨q1, hq, h⟩ := h
  refine EvX.callV (c := 8) (mc := 0) (ms := 0) (as := [(0, 1)]) (st := [(0, v11)]) (by decide +kernel) l_Mo_167 k_Mo_answers v_Mo_answers a_Mo_answers (by decide) (Nat.le_of_ble_eq_true rfl) rfl ov hq (fun r kd1 m3 hr => ?_)
  obtain ⟨x2, rfl, hk, hr⟩ := hr
  subst kd1
  have h := h x2 m3 hr
  show Ev (d + 1) M_Mo_laysBest 0 0 114 [(2, v0), zJ, zJ, (1, v3), zJ, (1, v5), zJ, (0, v7), (0, v8), zJ, (0, v10), (0, v11)] [(0, x2), (0, v11)] kd m3 (zqV kd q)
  refine EvX.icmp_ge (off := 41) (tgt := 155) (by decide +kernel) (by decide) (fun hc => ?_) (fun hc => ?_)
  · have h := h.1 hc
    refine EvX.blk (pc' := 158) [(.iinc 7 1, 0, 0)] (by decide +kernel) trivial ?_
    show Ev (d + 1) M_Mo_laysBest 0 0 158 [(2, v0), zJ, zJ, (1, v3), zJ, (1, v5), zJ, (0, iw (v7 + 1)), (0, v8), zJ, (0, v10), (0, v11)] [] kd m3 (zqV kd q)
    refine EvX.goto (off := (-145)) (tgt := 13) (by decide +kernel) (by decide) ?_
    exact EvX.weak (ls2 := [(2, v0), zJ, zJ, (1, v3), zJ, (1, v5), zJ, (0, iw (v7 + 1)), zJ, zJ, zJ, zJ]) (zwk_of ⟨Or.inr rfl, Or.inl rfl, Or.inl rfl, Or.inr rfl, Or.inl rfl, Or.inr rfl, Or.inl rfl, Or.inr rfl, Or.inl rfl, Or.inl rfl, Or.inl rfl, Or.inl rfl, trivial⟩) h
  · have h := h.2 hc
    obtain ⟨o1, o2, h⟩ := h
    refine EvX.blk (pc' := 126) [(.aload_n 0, 0, 0), (.getfield 39, 8, 15), (.iload 11, 0, 0), (.iaload, 0, 0), (.iload 8, 0, 0)] (by decide +kernel) ⟨g_Mo_39, trivial⟩ ⟨o1, o2, ?_⟩
    show Ev (d + 1) M_Mo_laysBest 0 0 126 [(2, v0), zJ, zJ, (1, v3), zJ, (1, v5), zJ, (0, v7), (0, v8), zJ, (0, v10), (0, v11)] [(0, v8), (0, m3 (m3 v0 15) v11)] kd m3 (zqV kd q)
    refine EvX.icmp_eq (off := 6) (tgt := 132) (by decide +kernel) (by decide) (fun hc => ?_) (fun hc => ?_)
    · have h := h.1 hc
      refine EvX.blk (pc' := 134) [(.iload 10, 0, 0)] (by decide +kernel) trivial ?_
      show Ev (d + 1) M_Mo_laysBest 0 0 134 [(2, v0), zJ, zJ, (1, v3), zJ, (1, v5), zJ, (0, v7), (0, v8), zJ, (0, v10), (0, v11)] [(0, v10)] kd m3 (zqV kd q)
      refine EvX.if_ne (off := 12) (tgt := 146) (by decide +kernel) (by decide) (fun hc => ?_) (fun hc => ?_)
      · have h := h.1 hc
        refine EvX.blk (pc' := 152) [(.iinc 10 (-1), 0, 0), (.iinc 11 1, 0, 0)] (by decide +kernel) trivial ?_
        show Ev (d + 1) M_Mo_laysBest 0 0 152 [(2, v0), zJ, zJ, (1, v3), zJ, (1, v5), zJ, (0, v7), (0, v8), zJ, (0, iw (v10 + (-1))), (0, iw (v11 + 1))] [] kd m3 (zqV kd q)
        refine EvX.goto (off := (-45)) (tgt := 107) (by decide +kernel) (by decide) ?_
        exact h
      · have h := h.2 hc
        obtain ⟨o1, o2, h⟩ := h
        refine EvX.blk (pc' := 152) [(.aload_n 0, 0, 0), (.getfield 36, 8, 13), (.iload 7, 0, 0), (.iload 11, 0, 0), (.iastore, 0, 0), (.iinc 10 (-1), 0, 0), (.iinc 11 1, 0, 0)] (by decide +kernel) ⟨g_Mo_36, trivial⟩ ⟨o1, o2, ?_⟩
        show Ev (d + 1) M_Mo_laysBest 0 0 152 [(2, v0), zJ, zJ, (1, v3), zJ, (1, v5), zJ, (0, v7), (0, v8), zJ, (0, iw (v10 + (-1))), (0, iw (v11 + 1))] [] kd (zup m3 (m3 v0 13) v7 v11) (zqV kd q)
        refine EvX.goto (off := (-45)) (tgt := 107) (by decide +kernel) (by decide) ?_
        exact h
    · have h := h.2 hc
      refine EvX.goto (off := 20) (tgt := 149) (by decide +kernel) (by decide) ?_
      refine EvX.blk (pc' := 152) [(.iinc 11 1, 0, 0)] (by decide +kernel) trivial ?_
      show Ev (d + 1) M_Mo_laysBest 0 0 152 [(2, v0), zJ, zJ, (1, v3), zJ, (1, v5), zJ, (0, v7), (0, v8), zJ, (0, v10), (0, iw (v11 + 1))] [] kd m3 (zqV kd q)
      refine EvX.goto (off := (-45)) (tgt := 107) (by decide +kernel) (by decide) ?_
      exact h
set_option maxRecDepth 20000 in
set_option maxHeartbeats 1000000 in
theorem T_Mo_best_0 {d : Nat} {kd : ZK} {m : ZM} {q : Int → ZM → Prop} {v0 v1 v2 : Int} (h : (zobj kd v0 8 ∧ ∃ q1, CtI d M_Mo_hasGame [(2, v0)] kd m q1 ∧ ∀ x2 m3, q1 x2 m3 → ((x2 = 0 → q (-1) m3) ∧ (¬ x2 = 0 → ((v1 < 0 → q (-1) m3) ∧ (¬ v1 < 0 → (∃ q4, CtI d M_Mo_isPlayer [(0, v2)] kd m3 q4 ∧ ∀ x5 m6, q4 x5 m6 → ((x5 ≠ 0 → (zobj kd v0 8 ∧ ∃ q7, CtI d M_Mo_mostWorth [(2, v0)] kd m6 q7 ∧ ∀ x8 m9, q7 x8 m9 → (zobj kd v0 8 ∧ ∃ q10, CtV d M_Mo_laysFirst [(2, v0), (0, 0)] kd m9 q10 ∧ ∀ m12, q10 m12 → (Ev (d + 1) M_Mo_best 0 0 36 [(2, v0), (0, v1), (0, v2), (0, x8), (1, 0), zJ, (0, 1), zJ, zJ] [] kd m12 (zqI kd q))))) ∧ (¬ x5 ≠ 0 → q (-1) m6))))))))) : Ev (d + 1) M_Mo_best 0 0 0 [(2, v0), (0, v1), (0, v2), zJ, zJ, zJ, zJ, zJ, zJ] [] kd m (zqI kd q) := by
  refine EvX.blk (pc' := 1) [(.aload_n 0, 0, 0)] (by decide +kernel) trivial ?_
  show Ev (d + 1) M_Mo_best 0 0 1 [(2, v0), (0, v1), (0, v2), zJ, zJ, zJ, zJ, zJ, zJ] [(2, v0)] kd m (zqI kd q)
  obtain ⟨ov, h⟩ := h
  obtain ⟨q1, hq, h⟩ := h
  refine EvX.callV (c := 8) (mc := 0) (ms := 0) (as := []) (st := []) (by decide +kernel) l_Mo_215 k_Mo_hasGame v_Mo_hasGame a_Mo_hasGame (by decide) (Nat.le_of_ble_eq_true rfl) rfl ov hq (fun r kd1 m3 hr => ?_)
  obtain ⟨x2, rfl, hk, hr⟩ := hr
  subst kd1
  have h := h x2 m3 hr
  show Ev (d + 1) M_Mo_best 0 0 4 [(2, v0), (0, v1), (0, v2), zJ, zJ, zJ, zJ, zJ, zJ] [(0, x2)] kd m3 (zqI kd q)
  refine EvX.if_eq (off := 14) (tgt := 18) (by decide +kernel) (by decide) (fun hc => ?_) (fun hc => ?_)
  · have h := h.1 hc
    refine EvX.blk (pc' := 19) [(.iconst (-1), 0, 0)] (by decide +kernel) trivial ?_
    show Ev (d + 1) M_Mo_best 0 0 19 [(2, v0), (0, v1), (0, v2), zJ, zJ, zJ, zJ, zJ, zJ] [(0, (-1))] kd m3 (zqI kd q)
    exact EvX.ret (r := (0, (-1))) (by decide +kernel) rfl ⟨_, rfl, rfl, h⟩
  · have h := h.2 hc
    refine EvX.blk (pc' := 8) [(.iload_n 1, 0, 0)] (by decide +kernel) trivial ?_
    show Ev (d + 1) M_Mo_best 0 0 8 [(2, v0), (0, v1), (0, v2), zJ, zJ, zJ, zJ, zJ, zJ] [(0, v1)] kd m3 (zqI kd q)
    refine EvX.if_lt (off := 10) (tgt := 18) (by decide +kernel) (by decide) (fun hc => ?_) (fun hc => ?_)
    · have h := h.1 hc
      refine EvX.blk (pc' := 19) [(.iconst (-1), 0, 0)] (by decide +kernel) trivial ?_
      show Ev (d + 1) M_Mo_best 0 0 19 [(2, v0), (0, v1), (0, v2), zJ, zJ, zJ, zJ, zJ, zJ] [(0, (-1))] kd m3 (zqI kd q)
      exact EvX.ret (r := (0, (-1))) (by decide +kernel) rfl ⟨_, rfl, rfl, h⟩
    · have h := h.2 hc
      refine EvX.blk (pc' := 12) [(.iload_n 2, 0, 0)] (by decide +kernel) trivial ?_
      show Ev (d + 1) M_Mo_best 0 0 12 [(2, v0), (0, v1), (0, v2), zJ, zJ, zJ, zJ, zJ, zJ] [(0, v2)] kd m3 (zqI kd q)
      obtain ⟨q4, hq, h⟩ := h
      refine EvX.callS (mc := 0) (ms := 0) (as := [(0, v2)]) (st := []) (by decide +kernel) l_Mo_208 k_Mo_isPlayer s_Mo_isPlayer a_Mo_isPlayer (by decide) (Nat.le_of_ble_eq_true rfl) hq (fun r kd1 m6 hr => ?_)
      obtain ⟨x5, rfl, hk, hr⟩ := hr
      subst kd1
      have h := h x5 m6 hr
      show Ev (d + 1) M_Mo_best 0 0 15 [(2, v0), (0, v1), (0, v2), zJ, zJ, zJ, zJ, zJ, zJ] [(0, x5)] kd m6 (zqI kd q)
      refine EvX.if_ne (off := 5) (tgt := 20) (by decide +kernel) (by decide) (fun hc => ?_) (fun hc => ?_)
      · have h := h.1 hc
        refine EvX.blk (pc' := 21) [(.aload_n 0, 0, 0)] (by decide +kernel) trivial ?_
        show Ev (d + 1) M_Mo_best 0 0 21 [(2, v0), (0, v1), (0, v2), zJ, zJ, zJ, zJ, zJ, zJ] [(2, v0)] kd m6 (zqI kd q)
        obtain ⟨ov, h⟩ := h
        obtain ⟨q7, hq, h⟩ := h
        refine EvX.callV (c := 8) (mc := 0) (ms := 0) (as := []) (st := []) (by decide +kernel) l_Mo_281 k_Mo_mostWorth v_Mo_mostWorth a_Mo_mostWorth (by decide) (Nat.le_of_ble_eq_true rfl) rfl ov hq (fun r kd1 m9 hr => ?_)
        obtain ⟨x8, rfl, hk, hr⟩ := hr
        subst kd1
        have h := h x8 m9 hr
        show Ev (d + 1) M_Mo_best 0 0 24 [(2, v0), (0, v1), (0, v2), zJ, zJ, zJ, zJ, zJ, zJ] [(0, x8)] kd m9 (zqI kd q)
        refine EvX.blk (pc' := 30) [(.istore_n 3, 0, 0), (.lconst 0, 0, 0), (.lstore 4, 0, 0), (.aload_n 0, 0, 0), (.iconst 0, 0, 0)] (by decide +kernel) trivial ?_
        show Ev (d + 1) M_Mo_best 0 0 30 [(2, v0), (0, v1), (0, v2), (0, x8), (1, 0), zJ, zJ, zJ, zJ] [(0, 0), (2, v0)] kd m9 (zqI kd q)
        obtain ⟨ov, h⟩ := h
        obtain ⟨q10, hq, h⟩ := h
        refine EvX.callV (c := 8) (mc := 0) (ms := 0) (as := [(0, 0)]) (st := []) (by decide +kernel) l_Mo_265 k_Mo_laysFirst v_Mo_laysFirst a_Mo_laysFirst (by decide) (Nat.le_of_ble_eq_true rfl) rfl ov hq (fun r kd1 m12 hr => ?_)
        obtain ⟨rfl, hk, hr⟩ := hr
        subst kd1
        have h := h m12 hr
        show Ev (d + 1) M_Mo_best 0 0 33 [(2, v0), (0, v1), (0, v2), (0, x8), (1, 0), zJ, zJ, zJ, zJ] [] kd m12 (zqI kd q)
        refine EvX.blk (pc' := 36) [(.iconst 1, 0, 0), (.istore 6, 0, 0)] (by decide +kernel) trivial ?_
        show Ev (d + 1) M_Mo_best 0 0 36 [(2, v0), (0, v1), (0, v2), (0, x8), (1, 0), zJ, (0, 1), zJ, zJ] [] kd m12 (zqI kd q)
        exact h
      · have h := h.2 hc
        refine EvX.blk (pc' := 19) [(.iconst (-1), 0, 0)] (by decide +kernel) trivial ?_
        show Ev (d + 1) M_Mo_best 0 0 19 [(2, v0), (0, v1), (0, v2), zJ, zJ, zJ, zJ, zJ, zJ] [(0, (-1))] kd m6 (zqI kd q)
        exact EvX.ret (r := (0, (-1))) (by decide +kernel) rfl ⟨_, rfl, rfl, h⟩
theorem S_Mo_best {d : Nat} {kd : ZK} {m : ZM} {q : Int → ZM → Prop} {v0 v1 v2 : Int} (h : (zobj kd v0 8 ∧ ∃ q1, CtI d M_Mo_hasGame [(2, v0)] kd m q1 ∧ ∀ x2 m3, q1 x2 m3 → ((x2 = 0 → q (-1) m3) ∧ (¬ x2 = 0 → ((v1 < 0 → q (-1) m3) ∧ (¬ v1 < 0 → (∃ q4, CtI d M_Mo_isPlayer [(0, v2)] kd m3 q4 ∧ ∀ x5 m6, q4 x5 m6 → ((x5 ≠ 0 → (zobj kd v0 8 ∧ ∃ q7, CtI d M_Mo_mostWorth [(2, v0)] kd m6 q7 ∧ ∀ x8 m9, q7 x8 m9 → (zobj kd v0 8 ∧ ∃ q10, CtV d M_Mo_laysFirst [(2, v0), (0, 0)] kd m9 q10 ∧ ∀ m12, q10 m12 → (Ev (d + 1) M_Mo_best 0 0 36 [(2, v0), (0, v1), (0, v2), (0, x8), (1, 0), zJ, (0, 1), zJ, zJ] [] kd m12 (zqI kd q))))) ∧ (¬ x5 ≠ 0 → q (-1) m6))))))))) : CtI (d + 1) M_Mo_best [(2, v0), (0, v1), (0, v2)] kd m q :=
  Ct.start k_Mo_best (Nat.le_of_ble_eq_true rfl) ⟨1, Or.inr (Or.inl ⟨rfl, rfl⟩)⟩ (T_Mo_best_0 h)
set_option maxRecDepth 20000 in
set_option maxHeartbeats 1000000 in
theorem T_Mo_best_36 {d : Nat} {kd : ZK} {m : ZM} {q : Int → ZM → Prop} {v0 v1 v2 v3 v4 v6 : Int} (h : ((v6 = 0 → q (-2) m) ∧ (¬ v6 = 0 → (zobj kd v0 8 ∧ ∃ q1, CtI d M_Mo_reached [(2, v0), (0, 0), (0, 1)] kd m q1 ∧ ∀ x2 m3, q1 x2 m3 → ((x2 ≠ v3 → (Ev (d + 1) M_Mo_best 0 0 61 [(2, v0), (0, v1), (0, v2), (0, v3), (1, v4), zJ, zJ, zJ, zJ] [(1, 0)] kd m3 (zqI kd q))) ∧ (¬ x2 ≠ v3 → (zobj kd v0 8 ∧ ∃ q4, CtL d M_Mo_ways [(2, v0), (0, (-1)), (0, (-1))] kd m3 q4 ∧ ∀ x5 m6, q4 x5 m6 → (Ev (d + 1) M_Mo_best 0 0 61 [(2, v0), (0, v1), (0, v2), (0, v3), (1, v4), zJ, zJ, zJ, zJ] [(1, x5)] kd m6 (zqI kd q))))))))) : Ev (d + 1) M_Mo_best 0 0 36 [(2, v0), (0, v1), (0, v2), (0, v3), (1, v4), zJ, (0, v6), zJ, zJ] [] kd m (zqI kd q) := by
  refine EvX.blk (pc' := 38) [(.iload 6, 0, 0)] (by decide +kernel) trivial ?_
  show Ev (d + 1) M_Mo_best 0 0 38 [(2, v0), (0, v1), (0, v2), (0, v3), (1, v4), zJ, (0, v6), zJ, zJ] [(0, v6)] kd m (zqI kd q)
  refine EvX.if_eq (off := 68) (tgt := 106) (by decide +kernel) (by decide) (fun hc => ?_) (fun hc => ?_)
  · have h := h.1 hc
    refine EvX.blk (pc' := 108) [(.bipush (-2), 0, 0)] (by decide +kernel) trivial ?_
    show Ev (d + 1) M_Mo_best 0 0 108 [(2, v0), (0, v1), (0, v2), (0, v3), (1, v4), zJ, (0, v6), zJ, zJ] [(0, (-2))] kd m (zqI kd q)
    exact EvX.ret (r := (0, (-2))) (by decide +kernel) rfl ⟨_, rfl, rfl, h⟩
  · have h := h.2 hc
    refine EvX.blk (pc' := 44) [(.aload_n 0, 0, 0), (.iconst 0, 0, 0), (.iconst 1, 0, 0)] (by decide +kernel) trivial ?_
    show Ev (d + 1) M_Mo_best 0 0 44 [(2, v0), (0, v1), (0, v2), (0, v3), (1, v4), zJ, (0, v6), zJ, zJ] [(0, 1), (0, 0), (2, v0)] kd m (zqI kd q)
    obtain ⟨ov, h⟩ := h
    obtain ⟨q1, hq, h⟩ := h
    refine EvX.callV (c := 8) (mc := 0) (ms := 0) (as := [(0, 0), (0, 1)]) (st := []) (by decide +kernel) l_Mo_268 k_Mo_reached v_Mo_reached a_Mo_reached (by decide) (Nat.le_of_ble_eq_true rfl) rfl ov hq (fun r kd1 m3 hr => ?_)
    obtain ⟨x2, rfl, hk, hr⟩ := hr
    subst kd1
    have h := h x2 m3 hr
    show Ev (d + 1) M_Mo_best 0 0 47 [(2, v0), (0, v1), (0, v2), (0, v3), (1, v4), zJ, (0, v6), zJ, zJ] [(0, x2)] kd m3 (zqI kd q)
    refine EvX.blk (pc' := 48) [(.iload_n 3, 0, 0)] (by decide +kernel) trivial ?_
    show Ev (d + 1) M_Mo_best 0 0 48 [(2, v0), (0, v1), (0, v2), (0, v3), (1, v4), zJ, (0, v6), zJ, zJ] [(0, v3), (0, x2)] kd m3 (zqI kd q)
    refine EvX.icmp_ne (off := 12) (tgt := 60) (by decide +kernel) (by decide) (fun hc => ?_) (fun hc => ?_)
    · have h := h.1 hc
      refine EvX.blk (pc' := 61) [(.lconst 0, 0, 0)] (by decide +kernel) trivial ?_
      show Ev (d + 1) M_Mo_best 0 0 61 [(2, v0), (0, v1), (0, v2), (0, v3), (1, v4), zJ, (0, v6), zJ, zJ] [(1, 0)] kd m3 (zqI kd q)
      exact EvX.weak (ls2 := [(2, v0), (0, v1), (0, v2), (0, v3), (1, v4), zJ, zJ, zJ, zJ]) (zwk_of ⟨Or.inr rfl, Or.inr rfl, Or.inr rfl, Or.inr rfl, Or.inr rfl, Or.inl rfl, Or.inl rfl, Or.inl rfl, Or.inl rfl, trivial⟩) h
    · have h := h.2 hc
      refine EvX.blk (pc' := 54) [(.aload_n 0, 0, 0), (.iconst (-1), 0, 0), (.iconst (-1), 0, 0)] (by decide +kernel) trivial ?_
      show Ev (d + 1) M_Mo_best 0 0 54 [(2, v0), (0, v1), (0, v2), (0, v3), (1, v4), zJ, (0, v6), zJ, zJ] [(0, (-1)), (0, (-1)), (2, v0)] kd m3 (zqI kd q)
      obtain ⟨ov, h⟩ := h
      obtain ⟨q4, hq, h⟩ := h
      refine EvX.callV (c := 8) (mc := 0) (ms := 0) (as := [(0, (-1)), (0, (-1))]) (st := []) (by decide +kernel) l_Mo_299 k_Mo_ways v_Mo_ways a_Mo_ways (by decide) (Nat.le_of_ble_eq_true rfl) rfl ov hq (fun r kd1 m6 hr => ?_)
      obtain ⟨x5, rfl, hk, hr⟩ := hr
      subst kd1
      have h := h x5 m6 hr
      show Ev (d + 1) M_Mo_best 0 0 57 [(2, v0), (0, v1), (0, v2), (0, v3), (1, v4), zJ, (0, v6), zJ, zJ] [(1, x5)] kd m6 (zqI kd q)
      refine EvX.goto (off := 4) (tgt := 61) (by decide +kernel) (by decide) ?_
      exact EvX.weak (ls2 := [(2, v0), (0, v1), (0, v2), (0, v3), (1, v4), zJ, zJ, zJ, zJ]) (zwk_of ⟨Or.inr rfl, Or.inr rfl, Or.inr rfl, Or.inr rfl, Or.inr rfl, Or.inl rfl, Or.inl rfl, Or.inl rfl, Or.inl rfl, trivial⟩) h
set_option maxRecDepth 20000 in
set_option maxHeartbeats 1000000 in
theorem T_Mo_best_61 {d : Nat} {kd : ZK} {m : ZM} {q : Int → ZM → Prop} {v0 v1 v2 v3 v4 s0 : Int} (h : ((0 ≤ (zcmp v1 (lw64 (v4 + s0))) → (zobj kd v0 8 ∧ ∃ q1, CtI d M_Mo_goesOn [(2, v0), (0, 0)] kd m q1 ∧ ∀ x2 m3, q1 x2 m3 → (Ev (d + 1) M_Mo_best 0 0 36 [(2, v0), (0, v1), (0, v2), (0, v3), (1, lw64 (v4 + s0)), zJ, (0, x2), zJ, zJ] [] kd m3 (zqI kd q)))) ∧ (¬ 0 ≤ (zcmp v1 (lw64 (v4 + s0))) → (zobj kd v0 8 ∧ ∃ q4, CtV d M_Mo_laysBest [(2, v0), (1, lw64 (v1 - v4))] kd m q4 ∧ ∀ m6, q4 m6 → (zobj kd v0 8 ∧ ∃ q7, CtI d M_Mo_toldOf [(2, v0), (0, v2)] kd m6 q7 ∧ ∀ x8 m9, q7 x8 m9 → q x8 m9))))) : Ev (d + 1) M_Mo_best 0 0 61 [(2, v0), (0, v1), (0, v2), (0, v3), (1, v4), zJ, zJ, zJ, zJ] [(1, s0)] kd m (zqI kd q) := by
  refine EvX.blk (pc' := 71) [(.lstore 7, 0, 0), (.iload_n 1, 0, 0), (.i2l, 0, 0), (.lload 4, 0, 0), (.lload 7, 0, 0), (.ladd, 0, 0), (.lcmp, 0, 0)] (by decide +kernel) trivial ?_
  show Ev (d + 1) M_Mo_best 0 0 71 [(2, v0), (0, v1), (0, v2), (0, v3), (1, v4), zJ, zJ, (1, s0), zJ] [(0, zcmp v1 (lw64 (v4 + s0)))] kd m (zqI kd q)
  refine EvX.if_ge (off := 18) (tgt := 89) (by decide +kernel) (by decide) (fun hc => ?_) (fun hc => ?_)
  · have h := h.1 hc
    refine EvX.blk (pc' := 98) [(.lload 4, 0, 0), (.lload 7, 0, 0), (.ladd, 0, 0), (.lstore 4, 0, 0), (.aload_n 0, 0, 0), (.iconst 0, 0, 0)] (by decide +kernel) trivial ?_
    show Ev (d + 1) M_Mo_best 0 0 98 [(2, v0), (0, v1), (0, v2), (0, v3), (1, lw64 (v4 + s0)), zJ, zJ, (1, s0), zJ] [(0, 0), (2, v0)] kd m (zqI kd q)
    obtain ⟨ov, h⟩ := h
    obtain ⟨q1, hq, h⟩ := h
    refine EvX.callV (c := 8) (mc := 0) (ms := 0) (as := [(0, 0)]) (st := []) (by decide +kernel) l_Mo_272 k_Mo_goesOn v_Mo_goesOn a_Mo_goesOn (by decide) (Nat.le_of_ble_eq_true rfl) rfl ov hq (fun r kd1 m3 hr => ?_)
    obtain ⟨x2, rfl, hk, hr⟩ := hr
    subst kd1
    have h := h x2 m3 hr
    show Ev (d + 1) M_Mo_best 0 0 101 [(2, v0), (0, v1), (0, v2), (0, v3), (1, lw64 (v4 + s0)), zJ, zJ, (1, s0), zJ] [(0, x2)] kd m3 (zqI kd q)
    refine EvX.blk (pc' := 103) [(.istore 6, 0, 0)] (by decide +kernel) trivial ?_
    show Ev (d + 1) M_Mo_best 0 0 103 [(2, v0), (0, v1), (0, v2), (0, v3), (1, lw64 (v4 + s0)), zJ, (0, x2), (1, s0), zJ] [] kd m3 (zqI kd q)
    refine EvX.goto (off := (-67)) (tgt := 36) (by decide +kernel) (by decide) ?_
    exact EvX.weak (ls2 := [(2, v0), (0, v1), (0, v2), (0, v3), (1, lw64 (v4 + s0)), zJ, (0, x2), zJ, zJ]) (zwk_of ⟨Or.inr rfl, Or.inr rfl, Or.inr rfl, Or.inr rfl, Or.inr rfl, Or.inl rfl, Or.inr rfl, Or.inl rfl, Or.inl rfl, trivial⟩) h
  · have h := h.2 hc
    refine EvX.blk (pc' := 80) [(.aload_n 0, 0, 0), (.iload_n 1, 0, 0), (.i2l, 0, 0), (.lload 4, 0, 0), (.lsub, 0, 0)] (by decide +kernel) trivial ?_
    show Ev (d + 1) M_Mo_best 0 0 80 [(2, v0), (0, v1), (0, v2), (0, v3), (1, v4), zJ, zJ, (1, s0), zJ] [(1, lw64 (v1 - v4)), (2, v0)] kd m (zqI kd q)
    obtain ⟨ov, h⟩ := h
    obtain ⟨q4, hq, h⟩ := h
    refine EvX.callV (c := 8) (mc := 0) (ms := 0) (as := [(1, lw64 (v1 - v4))]) (st := []) (by decide +kernel) l_Mo_308 k_Mo_laysBest v_Mo_laysBest a_Mo_laysBest (by decide) (Nat.le_of_ble_eq_true rfl) rfl ov hq (fun r kd1 m6 hr => ?_)
    obtain ⟨rfl, hk, hr⟩ := hr
    subst kd1
    have h := h m6 hr
    show Ev (d + 1) M_Mo_best 0 0 83 [(2, v0), (0, v1), (0, v2), (0, v3), (1, v4), zJ, zJ, (1, s0), zJ] [] kd m6 (zqI kd q)
    refine EvX.blk (pc' := 85) [(.aload_n 0, 0, 0), (.iload_n 2, 0, 0)] (by decide +kernel) trivial ?_
    show Ev (d + 1) M_Mo_best 0 0 85 [(2, v0), (0, v1), (0, v2), (0, v3), (1, v4), zJ, zJ, (1, s0), zJ] [(0, v2), (2, v0)] kd m6 (zqI kd q)
    obtain ⟨ov, h⟩ := h
    obtain ⟨q7, hq, h⟩ := h
    refine EvX.callV (c := 8) (mc := 0) (ms := 0) (as := [(0, v2)]) (st := []) (by decide +kernel) l_Mo_278 k_Mo_toldOf v_Mo_toldOf a_Mo_toldOf (by decide) (Nat.le_of_ble_eq_true rfl) rfl ov hq (fun r kd1 m9 hr => ?_)
    obtain ⟨x8, rfl, hk, hr⟩ := hr
    subst kd1
    have h := h x8 m9 hr
    show Ev (d + 1) M_Mo_best 0 0 88 [(2, v0), (0, v1), (0, v2), (0, v3), (1, v4), zJ, zJ, (1, s0), zJ] [(0, x8)] kd m9 (zqI kd q)
    exact EvX.ret (r := (0, x8)) (by decide +kernel) rfl ⟨_, rfl, rfl, h⟩
set_option maxRecDepth 20000 in
set_option maxHeartbeats 1000000 in
theorem T_Mo_common_0 {d : Nat} {kd : ZK} {m : ZM} {q : Int → ZM → Prop} {v0 v2 : Int} (h : (((zcmp v2 0) ≠ 0 → (v2 ≠ 0 ∧ (∃ q1, CtL d M_Mo_common [(1, v2), (1, Int.tmod v0 v2)] kd m q1 ∧ ∀ x2 m3, q1 x2 m3 → q x2 m3))) ∧ (¬ (zcmp v2 0) ≠ 0 → q v0 m))) : Ev (d + 1) M_Mo_common 0 0 0 [(1, v0), zJ, (1, v2), zJ] [] kd m (zqL kd q) := by
  refine EvX.blk (pc' := 3) [(.lload_n 2, 0, 0), (.lconst 0, 0, 0), (.lcmp, 0, 0)] (by decide +kernel) trivial ?_
  show Ev (d + 1) M_Mo_common 0 0 3 [(1, v0), zJ, (1, v2), zJ] [(0, zcmp v2 0)] kd m (zqL kd q)
  refine EvX.if_ne (off := 7) (tgt := 10) (by decide +kernel) (by decide) (fun hc => ?_) (fun hc => ?_)
  · have h := h.1 hc
    obtain ⟨o1, h⟩ := h
    refine EvX.blk (pc' := 14) [(.lload_n 2, 0, 0), (.lload_n 0, 0, 0), (.lload_n 2, 0, 0), (.lrem, 0, 0)] (by decide +kernel) trivial ⟨o1, ?_⟩
    show Ev (d + 1) M_Mo_common 0 0 14 [(1, v0), zJ, (1, v2), zJ] [(1, Int.tmod v0 v2), (1, v2)] kd m (zqL kd q)
    obtain ⟨q1, hq, h⟩ := h
    refine EvX.callS (mc := 0) (ms := 0) (as := [(1, v2), (1, Int.tmod v0 v2)]) (st := []) (by decide +kernel) l_Mo_312 k_Mo_common s_Mo_common a_Mo_common (by decide) (Nat.le_of_ble_eq_true rfl) hq (fun r kd1 m3 hr => ?_)
    obtain ⟨x2, rfl, hk, hr⟩ := hr
    subst kd1
    have h := h x2 m3 hr
    show Ev (d + 1) M_Mo_common 0 0 17 [(1, v0), zJ, (1, v2), zJ] [(1, x2)] kd m3 (zqL kd q)
    exact EvX.ret (r := (1, x2)) (by decide +kernel) rfl ⟨_, rfl, rfl, h⟩
  · have h := h.2 hc
    refine EvX.blk (pc' := 7) [(.lload_n 0, 0, 0)] (by decide +kernel) trivial ?_
    show Ev (d + 1) M_Mo_common 0 0 7 [(1, v0), zJ, (1, v2), zJ] [(1, v0)] kd m (zqL kd q)
    refine EvX.goto (off := 10) (tgt := 17) (by decide +kernel) (by decide) ?_
    exact EvX.ret (r := (1, v0)) (by decide +kernel) rfl ⟨_, rfl, rfl, h⟩
theorem S_Mo_common {d : Nat} {kd : ZK} {m : ZM} {q : Int → ZM → Prop} {v0 v2 : Int} (h : (((zcmp v2 0) ≠ 0 → (v2 ≠ 0 ∧ (∃ q1, CtL d M_Mo_common [(1, v2), (1, Int.tmod v0 v2)] kd m q1 ∧ ∀ x2 m3, q1 x2 m3 → q x2 m3))) ∧ (¬ (zcmp v2 0) ≠ 0 → q v0 m))) : CtL (d + 1) M_Mo_common [(1, v0), (1, v2)] kd m q :=
  Ct.start k_Mo_common (Nat.le_of_ble_eq_true rfl) ⟨3, Or.inr (Or.inr (Or.inr (Or.inl ⟨rfl, rfl⟩)))⟩ (T_Mo_common_0 h)
set_option maxRecDepth 20000 in
set_option maxHeartbeats 1000000 in
theorem T_Mo_mean_0 {d : Nat} {kd : ZK} {m : ZM} {q : Int → ZM → Prop} {v0 v1 : Int} (h : (zobj kd v0 8 ∧ ∃ q1, CtI d M_Mo_hasGame [(2, v0)] kd m q1 ∧ ∀ x2 m3, q1 x2 m3 → ((x2 = 0 → q (-1) m3) ∧ (¬ x2 = 0 → (∃ q4, CtI d M_Mo_in [(1, v1), (1, 0), (1, 1)] kd m3 q4 ∧ ∀ x5 m6, q4 x5 m6 → ((x5 ≠ 0 → (Ev (d + 1) M_Mo_mean 0 0 26 [(2, v0), (0, v1), (1, 0), zJ, (0, 0), zJ, zJ, zJ] [] kd m6 (zqL kd q))) ∧ (¬ x5 ≠ 0 → q (-1) m6))))))) : Ev (d + 1) M_Mo_mean 0 0 0 [(2, v0), (0, v1), zJ, zJ, zJ, zJ, zJ, zJ] [] kd m (zqL kd q) := by
  refine EvX.blk (pc' := 1) [(.aload_n 0, 0, 0)] (by decide +kernel) trivial ?_
  show Ev (d + 1) M_Mo_mean 0 0 1 [(2, v0), (0, v1), zJ, zJ, zJ, zJ, zJ, zJ] [(2, v0)] kd m (zqL kd q)
  obtain ⟨ov, h⟩ := h
  obtain ⟨q1, hq, h⟩ := h
  refine EvX.callV (c := 8) (mc := 0) (ms := 0) (as := []) (st := []) (by decide +kernel) l_Mo_215 k_Mo_hasGame v_Mo_hasGame a_Mo_hasGame (by decide) (Nat.le_of_ble_eq_true rfl) rfl ov hq (fun r kd1 m3 hr => ?_)
  obtain ⟨x2, rfl, hk, hr⟩ := hr
  subst kd1
  have h := h x2 m3 hr
  show Ev (d + 1) M_Mo_mean 0 0 4 [(2, v0), (0, v1), zJ, zJ, zJ, zJ, zJ, zJ] [(0, x2)] kd m3 (zqL kd q)
  refine EvX.if_eq (off := 13) (tgt := 17) (by decide +kernel) (by decide) (fun hc => ?_) (fun hc => ?_)
  · have h := h.1 hc
    refine EvX.blk (pc' := 20) [(.ldc2_w 306, 0, (-1))] (by decide +kernel) ⟨z_Mo_306, trivial⟩ ?_
    show Ev (d + 1) M_Mo_mean 0 0 20 [(2, v0), (0, v1), zJ, zJ, zJ, zJ, zJ, zJ] [(1, (-1))] kd m3 (zqL kd q)
    exact EvX.ret (r := (1, (-1))) (by decide +kernel) rfl ⟨_, rfl, rfl, h⟩
  · have h := h.2 hc
    refine EvX.blk (pc' := 11) [(.iload_n 1, 0, 0), (.i2l, 0, 0), (.lconst 0, 0, 0), (.lconst 1, 0, 0)] (by decide +kernel) trivial ?_
    show Ev (d + 1) M_Mo_mean 0 0 11 [(2, v0), (0, v1), zJ, zJ, zJ, zJ, zJ, zJ] [(1, 1), (1, 0), (1, v1)] kd m3 (zqL kd q)
    obtain ⟨q4, hq, h⟩ := h
    refine EvX.callS (mc := 0) (ms := 0) (as := [(1, v1), (1, 0), (1, 1)]) (st := []) (by decide +kernel) l_Mo_93 k_Mo_in s_Mo_in a_Mo_in (by decide) (Nat.le_of_ble_eq_true rfl) hq (fun r kd1 m6 hr => ?_)
    obtain ⟨x5, rfl, hk, hr⟩ := hr
    subst kd1
    have h := h x5 m6 hr
    show Ev (d + 1) M_Mo_mean 0 0 14 [(2, v0), (0, v1), zJ, zJ, zJ, zJ, zJ, zJ] [(0, x5)] kd m6 (zqL kd q)
    refine EvX.if_ne (off := 7) (tgt := 21) (by decide +kernel) (by decide) (fun hc => ?_) (fun hc => ?_)
    · have h := h.1 hc
      refine EvX.blk (pc' := 26) [(.lconst 0, 0, 0), (.lstore_n 2, 0, 0), (.iconst 0, 0, 0), (.istore 4, 0, 0)] (by decide +kernel) trivial ?_
      show Ev (d + 1) M_Mo_mean 0 0 26 [(2, v0), (0, v1), (1, 0), zJ, (0, 0), zJ, zJ, zJ] [] kd m6 (zqL kd q)
      exact h
    · have h := h.2 hc
      refine EvX.blk (pc' := 20) [(.ldc2_w 306, 0, (-1))] (by decide +kernel) ⟨z_Mo_306, trivial⟩ ?_
      show Ev (d + 1) M_Mo_mean 0 0 20 [(2, v0), (0, v1), zJ, zJ, zJ, zJ, zJ, zJ] [(1, (-1))] kd m6 (zqL kd q)
      exact EvX.ret (r := (1, (-1))) (by decide +kernel) rfl ⟨_, rfl, rfl, h⟩
theorem S_Mo_mean {d : Nat} {kd : ZK} {m : ZM} {q : Int → ZM → Prop} {v0 v1 : Int} (h : (zobj kd v0 8 ∧ ∃ q1, CtI d M_Mo_hasGame [(2, v0)] kd m q1 ∧ ∀ x2 m3, q1 x2 m3 → ((x2 = 0 → q (-1) m3) ∧ (¬ x2 = 0 → (∃ q4, CtI d M_Mo_in [(1, v1), (1, 0), (1, 1)] kd m3 q4 ∧ ∀ x5 m6, q4 x5 m6 → ((x5 ≠ 0 → (Ev (d + 1) M_Mo_mean 0 0 26 [(2, v0), (0, v1), (1, 0), zJ, (0, 0), zJ, zJ, zJ] [] kd m6 (zqL kd q))) ∧ (¬ x5 ≠ 0 → q (-1) m6))))))) : CtL (d + 1) M_Mo_mean [(2, v0), (0, v1)] kd m q :=
  Ct.start k_Mo_mean (Nat.le_of_ble_eq_true rfl) ⟨3, Or.inr (Or.inr (Or.inr (Or.inl ⟨rfl, rfl⟩)))⟩ (T_Mo_mean_0 h)
set_option maxRecDepth 20000 in
set_option maxHeartbeats 1000000 in
theorem T_Mo_mean_26 {d : Nat} {kd : ZK} {m : ZM} {q : Int → ZM → Prop} {v0 v1 v2 v4 : Int} (h : (zobj kd v0 8 ∧ ∃ q1, CtI d M_Mo_questions [(2, v0), (0, 0)] kd m q1 ∧ ∀ x2 m3, q1 x2 m3 → ((x2 ≤ v4 → (zobj kd v0 8 ∧ ∃ q4, CtI d M_Mo_answers [(2, v0), (0, 0)] kd m3 q4 ∧ ∀ x5 m6, q4 x5 m6 → (zobj kd v0 8 ∧ ∃ q7, CtI d M_Mo_answers [(2, v0), (0, 1)] kd m6 q7 ∧ ∀ x8 m9, q7 x8 m9 → (∃ q10, CtL d M_Mo_common [(1, v2), (1, iw (x5 * x8))] kd m9 q10 ∧ ∀ x11 m12, q10 x11 m12 → ((v1 ≠ 0 → (x11 ≠ 0 ∧ q (lw64 (Int.tdiv (iw (x5 * x8)) x11)) m12)) ∧ (¬ v1 ≠ 0 → (x11 ≠ 0 ∧ q (lw64 (Int.tdiv v2 x11)) m12))))))) ∧ (¬ x2 ≤ v4 → (Ev (d + 1) M_Mo_mean 0 0 39 [(2, v0), (0, v1), (1, v2), zJ, (0, v4), (0, 0), zJ, zJ] [] kd m3 (zqL kd q)))))) : Ev (d + 1) M_Mo_mean 0 0 26 [(2, v0), (0, v1), (1, v2), zJ, (0, v4), zJ, zJ, zJ] [] kd m (zqL kd q) := by
  refine EvX.blk (pc' := 30) [(.iload 4, 0, 0), (.aload_n 0, 0, 0), (.iconst 0, 0, 0)] (by decide +kernel) trivial ?_
  show Ev (d + 1) M_Mo_mean 0 0 30 [(2, v0), (0, v1), (1, v2), zJ, (0, v4), zJ, zJ, zJ] [(0, 0), (2, v0), (0, v4)] kd m (zqL kd q)
  obtain ⟨ov, h⟩ := h
  obtain ⟨q1, hq, h⟩ := h
  refine EvX.callV (c := 8) (mc := 0) (ms := 0) (as := [(0, 0)]) (st := [(0, v4)]) (by decide +kernel) l_Mo_163 k_Mo_questions v_Mo_questions a_Mo_questions (by decide) (Nat.le_of_ble_eq_true rfl) rfl ov hq (fun r kd1 m3 hr => ?_)
  obtain ⟨x2, rfl, hk, hr⟩ := hr
  subst kd1
  have h := h x2 m3 hr
  show Ev (d + 1) M_Mo_mean 0 0 33 [(2, v0), (0, v1), (1, v2), zJ, (0, v4), zJ, zJ, zJ] [(0, x2), (0, v4)] kd m3 (zqL kd q)
  refine EvX.icmp_ge (off := 97) (tgt := 130) (by decide +kernel) (by decide) (fun hc => ?_) (fun hc => ?_)
  · have h := h.1 hc
    refine EvX.blk (pc' := 132) [(.aload_n 0, 0, 0), (.iconst 0, 0, 0)] (by decide +kernel) trivial ?_
    show Ev (d + 1) M_Mo_mean 0 0 132 [(2, v0), (0, v1), (1, v2), zJ, (0, v4), zJ, zJ, zJ] [(0, 0), (2, v0)] kd m3 (zqL kd q)
    obtain ⟨ov, h⟩ := h
    obtain ⟨q4, hq, h⟩ := h
    refine EvX.callV (c := 8) (mc := 0) (ms := 0) (as := [(0, 0)]) (st := []) (by decide +kernel) l_Mo_167 k_Mo_answers v_Mo_answers a_Mo_answers (by decide) (Nat.le_of_ble_eq_true rfl) rfl ov hq (fun r kd1 m6 hr => ?_)
    obtain ⟨x5, rfl, hk, hr⟩ := hr
    subst kd1
    have h := h x5 m6 hr
    show Ev (d + 1) M_Mo_mean 0 0 135 [(2, v0), (0, v1), (1, v2), zJ, (0, v4), zJ, zJ, zJ] [(0, x5)] kd m6 (zqL kd q)
    refine EvX.blk (pc' := 137) [(.aload_n 0, 0, 0), (.iconst 1, 0, 0)] (by decide +kernel) trivial ?_
    show Ev (d + 1) M_Mo_mean 0 0 137 [(2, v0), (0, v1), (1, v2), zJ, (0, v4), zJ, zJ, zJ] [(0, 1), (2, v0), (0, x5)] kd m6 (zqL kd q)
    obtain ⟨ov, h⟩ := h
    obtain ⟨q7, hq, h⟩ := h
    refine EvX.callV (c := 8) (mc := 0) (ms := 0) (as := [(0, 1)]) (st := [(0, x5)]) (by decide +kernel) l_Mo_167 k_Mo_answers v_Mo_answers a_Mo_answers (by decide) (Nat.le_of_ble_eq_true rfl) rfl ov hq (fun r kd1 m9 hr => ?_)
    obtain ⟨x8, rfl, hk, hr⟩ := hr
    subst kd1
    have h := h x8 m9 hr
    show Ev (d + 1) M_Mo_mean 0 0 140 [(2, v0), (0, v1), (1, v2), zJ, (0, v4), zJ, zJ, zJ] [(0, x8), (0, x5)] kd m9 (zqL kd q)
    refine EvX.blk (pc' := 147) [(.imul, 0, 0), (.i2l, 0, 0), (.lstore 4, 0, 0), (.lload_n 2, 0, 0), (.lload 4, 0, 0)] (by decide +kernel) trivial ?_
    show Ev (d + 1) M_Mo_mean 0 0 147 [(2, v0), (0, v1), (1, v2), zJ, (1, iw (x5 * x8)), zJ, zJ, zJ] [(1, iw (x5 * x8)), (1, v2)] kd m9 (zqL kd q)
    obtain ⟨q10, hq, h⟩ := h
    refine EvX.callS (mc := 0) (ms := 0) (as := [(1, v2), (1, iw (x5 * x8))]) (st := []) (by decide +kernel) l_Mo_312 k_Mo_common s_Mo_common a_Mo_common (by decide) (Nat.le_of_ble_eq_true rfl) hq (fun r kd1 m12 hr => ?_)
    obtain ⟨x11, rfl, hk, hr⟩ := hr
    subst kd1
    have h := h x11 m12 hr
    show Ev (d + 1) M_Mo_mean 0 0 150 [(2, v0), (0, v1), (1, v2), zJ, (1, iw (x5 * x8)), zJ, zJ, zJ] [(1, x11)] kd m12 (zqL kd q)
    refine EvX.blk (pc' := 153) [(.lstore 6, 0, 0), (.iload_n 1, 0, 0)] (by decide +kernel) trivial ?_
    show Ev (d + 1) M_Mo_mean 0 0 153 [(2, v0), (0, v1), (1, v2), zJ, (1, iw (x5 * x8)), zJ, (1, x11), zJ] [(0, v1)] kd m12 (zqL kd q)
    refine EvX.if_ne (off := 10) (tgt := 163) (by decide +kernel) (by decide) (fun hc => ?_) (fun hc => ?_)
    · have h := h.1 hc
      obtain ⟨o1, h⟩ := h
      refine EvX.blk (pc' := 168) [(.lload 4, 0, 0), (.lload 6, 0, 0), (.ldiv, 0, 0)] (by decide +kernel) trivial ⟨o1, ?_⟩
      show Ev (d + 1) M_Mo_mean 0 0 168 [(2, v0), (0, v1), (1, v2), zJ, (1, iw (x5 * x8)), zJ, (1, x11), zJ] [(1, lw64 (Int.tdiv (iw (x5 * x8)) x11))] kd m12 (zqL kd q)
      exact EvX.ret (r := (1, lw64 (Int.tdiv (iw (x5 * x8)) x11))) (by decide +kernel) rfl ⟨_, rfl, rfl, h⟩
    · have h := h.2 hc
      obtain ⟨o1, h⟩ := h
      refine EvX.blk (pc' := 160) [(.lload_n 2, 0, 0), (.lload 6, 0, 0), (.ldiv, 0, 0)] (by decide +kernel) trivial ⟨o1, ?_⟩
      show Ev (d + 1) M_Mo_mean 0 0 160 [(2, v0), (0, v1), (1, v2), zJ, (1, iw (x5 * x8)), zJ, (1, x11), zJ] [(1, lw64 (Int.tdiv v2 x11))] kd m12 (zqL kd q)
      refine EvX.goto (off := 8) (tgt := 168) (by decide +kernel) (by decide) ?_
      exact EvX.ret (r := (1, lw64 (Int.tdiv v2 x11))) (by decide +kernel) rfl ⟨_, rfl, rfl, h⟩
  · have h := h.2 hc
    refine EvX.blk (pc' := 39) [(.iconst 0, 0, 0), (.istore 5, 0, 0)] (by decide +kernel) trivial ?_
    show Ev (d + 1) M_Mo_mean 0 0 39 [(2, v0), (0, v1), (1, v2), zJ, (0, v4), (0, 0), zJ, zJ] [] kd m3 (zqL kd q)
    exact h
set_option maxRecDepth 20000 in
set_option maxHeartbeats 1000000 in
theorem T_Mo_mean_39 {d : Nat} {kd : ZK} {m : ZM} {q : Int → ZM → Prop} {v0 v1 v2 v4 v5 : Int} (h : (zobj kd v0 8 ∧ ∃ q1, CtI d M_Mo_questions [(2, v0), (0, 1)] kd m q1 ∧ ∀ x2 m3, q1 x2 m3 → ((x2 ≤ v5 → (Ev (d + 1) M_Mo_mean 0 0 26 [(2, v0), (0, v1), (1, v2), zJ, (0, iw (v4 + 1)), zJ, zJ, zJ] [] kd m3 (zqL kd q))) ∧ (¬ x2 ≤ v5 → (Ev (d + 1) M_Mo_mean 0 0 52 [(2, v0), (0, v1), (1, v2), zJ, (0, v4), (0, v5), (0, 0), zJ] [] kd m3 (zqL kd q)))))) : Ev (d + 1) M_Mo_mean 0 0 39 [(2, v0), (0, v1), (1, v2), zJ, (0, v4), (0, v5), zJ, zJ] [] kd m (zqL kd q) := by
  refine EvX.blk (pc' := 43) [(.iload 5, 0, 0), (.aload_n 0, 0, 0), (.iconst 1, 0, 0)] (by decide +kernel) trivial ?_
  show Ev (d + 1) M_Mo_mean 0 0 43 [(2, v0), (0, v1), (1, v2), zJ, (0, v4), (0, v5), zJ, zJ] [(0, 1), (2, v0), (0, v5)] kd m (zqL kd q)
  obtain ⟨ov, h⟩ := h
  obtain ⟨q1, hq, h⟩ := h
  refine EvX.callV (c := 8) (mc := 0) (ms := 0) (as := [(0, 1)]) (st := [(0, v5)]) (by decide +kernel) l_Mo_163 k_Mo_questions v_Mo_questions a_Mo_questions (by decide) (Nat.le_of_ble_eq_true rfl) rfl ov hq (fun r kd1 m3 hr => ?_)
  obtain ⟨x2, rfl, hk, hr⟩ := hr
  subst kd1
  have h := h x2 m3 hr
  show Ev (d + 1) M_Mo_mean 0 0 46 [(2, v0), (0, v1), (1, v2), zJ, (0, v4), (0, v5), zJ, zJ] [(0, x2), (0, v5)] kd m3 (zqL kd q)
  refine EvX.icmp_ge (off := 78) (tgt := 124) (by decide +kernel) (by decide) (fun hc => ?_) (fun hc => ?_)
  · have h := h.1 hc
    refine EvX.blk (pc' := 127) [(.iinc 4 1, 0, 0)] (by decide +kernel) trivial ?_
    show Ev (d + 1) M_Mo_mean 0 0 127 [(2, v0), (0, v1), (1, v2), zJ, (0, iw (v4 + 1)), (0, v5), zJ, zJ] [] kd m3 (zqL kd q)
    refine EvX.goto (off := (-101)) (tgt := 26) (by decide +kernel) (by decide) ?_
    exact EvX.weak (ls2 := [(2, v0), (0, v1), (1, v2), zJ, (0, iw (v4 + 1)), zJ, zJ, zJ]) (zwk_of ⟨Or.inr rfl, Or.inr rfl, Or.inr rfl, Or.inl rfl, Or.inr rfl, Or.inl rfl, Or.inl rfl, Or.inl rfl, trivial⟩) h
  · have h := h.2 hc
    refine EvX.blk (pc' := 52) [(.iconst 0, 0, 0), (.istore 6, 0, 0)] (by decide +kernel) trivial ?_
    show Ev (d + 1) M_Mo_mean 0 0 52 [(2, v0), (0, v1), (1, v2), zJ, (0, v4), (0, v5), (0, 0), zJ] [] kd m3 (zqL kd q)
    exact h
set_option maxRecDepth 20000 in
set_option maxHeartbeats 1000000 in
theorem T_Mo_mean_52 {d : Nat} {kd : ZK} {m : ZM} {q : Int → ZM → Prop} {v0 v1 v2 v4 v5 v6 : Int} (h : (zobj kd v0 8 ∧ ∃ q1, CtI d M_Mo_answers [(2, v0), (0, 0)] kd m q1 ∧ ∀ x2 m3, q1 x2 m3 → ((x2 ≤ v6 → (Ev (d + 1) M_Mo_mean 0 0 39 [(2, v0), (0, v1), (1, v2), zJ, (0, v4), (0, iw (v5 + 1)), zJ, zJ] [] kd m3 (zqL kd q))) ∧ (¬ x2 ≤ v6 → (Ev (d + 1) M_Mo_mean 0 0 65 [(2, v0), (0, v1), (1, v2), zJ, (0, v4), (0, v5), (0, v6), (0, 0)] [] kd m3 (zqL kd q)))))) : Ev (d + 1) M_Mo_mean 0 0 52 [(2, v0), (0, v1), (1, v2), zJ, (0, v4), (0, v5), (0, v6), zJ] [] kd m (zqL kd q) := by
  refine EvX.blk (pc' := 56) [(.iload 6, 0, 0), (.aload_n 0, 0, 0), (.iconst 0, 0, 0)] (by decide +kernel) trivial ?_
  show Ev (d + 1) M_Mo_mean 0 0 56 [(2, v0), (0, v1), (1, v2), zJ, (0, v4), (0, v5), (0, v6), zJ] [(0, 0), (2, v0), (0, v6)] kd m (zqL kd q)
  obtain ⟨ov, h⟩ := h
  obtain ⟨q1, hq, h⟩ := h
  refine EvX.callV (c := 8) (mc := 0) (ms := 0) (as := [(0, 0)]) (st := [(0, v6)]) (by decide +kernel) l_Mo_167 k_Mo_answers v_Mo_answers a_Mo_answers (by decide) (Nat.le_of_ble_eq_true rfl) rfl ov hq (fun r kd1 m3 hr => ?_)
  obtain ⟨x2, rfl, hk, hr⟩ := hr
  subst kd1
  have h := h x2 m3 hr
  show Ev (d + 1) M_Mo_mean 0 0 59 [(2, v0), (0, v1), (1, v2), zJ, (0, v4), (0, v5), (0, v6), zJ] [(0, x2), (0, v6)] kd m3 (zqL kd q)
  refine EvX.icmp_ge (off := 59) (tgt := 118) (by decide +kernel) (by decide) (fun hc => ?_) (fun hc => ?_)
  · have h := h.1 hc
    refine EvX.blk (pc' := 121) [(.iinc 5 1, 0, 0)] (by decide +kernel) trivial ?_
    show Ev (d + 1) M_Mo_mean 0 0 121 [(2, v0), (0, v1), (1, v2), zJ, (0, v4), (0, iw (v5 + 1)), (0, v6), zJ] [] kd m3 (zqL kd q)
    refine EvX.goto (off := (-82)) (tgt := 39) (by decide +kernel) (by decide) ?_
    exact EvX.weak (ls2 := [(2, v0), (0, v1), (1, v2), zJ, (0, v4), (0, iw (v5 + 1)), zJ, zJ]) (zwk_of ⟨Or.inr rfl, Or.inr rfl, Or.inr rfl, Or.inl rfl, Or.inr rfl, Or.inr rfl, Or.inl rfl, Or.inl rfl, trivial⟩) h
  · have h := h.2 hc
    refine EvX.blk (pc' := 65) [(.iconst 0, 0, 0), (.istore 7, 0, 0)] (by decide +kernel) trivial ?_
    show Ev (d + 1) M_Mo_mean 0 0 65 [(2, v0), (0, v1), (1, v2), zJ, (0, v4), (0, v5), (0, v6), (0, 0)] [] kd m3 (zqL kd q)
    exact h
set_option maxRecDepth 20000 in
set_option maxHeartbeats 1000000 in
theorem T_Mo_mean_65 {d : Nat} {kd : ZK} {m : ZM} {q : Int → ZM → Prop} {v0 v1 v2 v4 v5 v6 v7 : Int} (h : (zobj kd v0 8 ∧ ∃ q1, CtI d M_Mo_answers [(2, v0), (0, 1)] kd m q1 ∧ ∀ x2 m3, q1 x2 m3 → ((x2 ≤ v7 → (Ev (d + 1) M_Mo_mean 0 0 52 [(2, v0), (0, v1), (1, v2), zJ, (0, v4), (0, v5), (0, iw (v6 + 1)), zJ] [] kd m3 (zqL kd q))) ∧ (¬ x2 ≤ v7 → (zobj kd v0 8 ∧ ∃ q4, CtI d M_Mo_isWin [(2, v0), (0, v4), (0, v5), (0, v6), (0, v7)] kd m3 q4 ∧ ∀ x5 m6, q4 x5 m6 → ((x5 = 0 → (Ev (d + 1) M_Mo_mean 0 0 65 [(2, v0), (0, v1), (1, lw64 (v2 + 0)), zJ, (0, v4), (0, v5), (0, v6), (0, iw (v7 + 1))] [] kd m6 (zqL kd q))) ∧ (¬ x5 = 0 → (zobj kd v0 8 ∧ ∃ q7, CtI d M_Mo_weightOf [(2, v0), (0, v4), (0, v5)] kd m6 q7 ∧ ∀ x8 m9, q7 x8 m9 → (Ev (d + 1) M_Mo_mean 0 0 65 [(2, v0), (0, v1), (1, lw64 (v2 + x8)), zJ, (0, v4), (0, v5), (0, v6), (0, iw (v7 + 1))] [] kd m9 (zqL kd q)))))))))) : Ev (d + 1) M_Mo_mean 0 0 65 [(2, v0), (0, v1), (1, v2), zJ, (0, v4), (0, v5), (0, v6), (0, v7)] [] kd m (zqL kd q) := by
  refine EvX.blk (pc' := 69) [(.iload 7, 0, 0), (.aload_n 0, 0, 0), (.iconst 1, 0, 0)] (by decide +kernel) trivial ?_
  show Ev (d + 1) M_Mo_mean 0 0 69 [(2, v0), (0, v1), (1, v2), zJ, (0, v4), (0, v5), (0, v6), (0, v7)] [(0, 1), (2, v0), (0, v7)] kd m (zqL kd q)
  obtain ⟨ov, h⟩ := h
  obtain ⟨q1, hq, h⟩ := h
  refine EvX.callV (c := 8) (mc := 0) (ms := 0) (as := [(0, 1)]) (st := [(0, v7)]) (by decide +kernel) l_Mo_167 k_Mo_answers v_Mo_answers a_Mo_answers (by decide) (Nat.le_of_ble_eq_true rfl) rfl ov hq (fun r kd1 m3 hr => ?_)
  obtain ⟨x2, rfl, hk, hr⟩ := hr
  subst kd1
  have h := h x2 m3 hr
  show Ev (d + 1) M_Mo_mean 0 0 72 [(2, v0), (0, v1), (1, v2), zJ, (0, v4), (0, v5), (0, v6), (0, v7)] [(0, x2), (0, v7)] kd m3 (zqL kd q)
  refine EvX.icmp_ge (off := 40) (tgt := 112) (by decide +kernel) (by decide) (fun hc => ?_) (fun hc => ?_)
  · have h := h.1 hc
    refine EvX.blk (pc' := 115) [(.iinc 6 1, 0, 0)] (by decide +kernel) trivial ?_
    show Ev (d + 1) M_Mo_mean 0 0 115 [(2, v0), (0, v1), (1, v2), zJ, (0, v4), (0, v5), (0, iw (v6 + 1)), (0, v7)] [] kd m3 (zqL kd q)
    refine EvX.goto (off := (-63)) (tgt := 52) (by decide +kernel) (by decide) ?_
    exact EvX.weak (ls2 := [(2, v0), (0, v1), (1, v2), zJ, (0, v4), (0, v5), (0, iw (v6 + 1)), zJ]) (zwk_of ⟨Or.inr rfl, Or.inr rfl, Or.inr rfl, Or.inl rfl, Or.inr rfl, Or.inr rfl, Or.inr rfl, Or.inl rfl, trivial⟩) h
  · have h := h.2 hc
    refine EvX.blk (pc' := 85) [(.lload_n 2, 0, 0), (.aload_n 0, 0, 0), (.iload 4, 0, 0), (.iload 5, 0, 0), (.iload 6, 0, 0), (.iload 7, 0, 0)] (by decide +kernel) trivial ?_
    show Ev (d + 1) M_Mo_mean 0 0 85 [(2, v0), (0, v1), (1, v2), zJ, (0, v4), (0, v5), (0, v6), (0, v7)] [(0, v7), (0, v6), (0, v5), (0, v4), (2, v0), (1, v2)] kd m3 (zqL kd q)
    obtain ⟨ov, h⟩ := h
    obtain ⟨q4, hq, h⟩ := h
    refine EvX.callV (c := 8) (mc := 0) (ms := 0) (as := [(0, v4), (0, v5), (0, v6), (0, v7)]) (st := [(1, v2)]) (by decide +kernel) l_Mo_197 k_Mo_isWin v_Mo_isWin a_Mo_isWin (by decide) (Nat.le_of_ble_eq_true rfl) rfl ov hq (fun r kd1 m6 hr => ?_)
    obtain ⟨x5, rfl, hk, hr⟩ := hr
    subst kd1
    have h := h x5 m6 hr
    show Ev (d + 1) M_Mo_mean 0 0 88 [(2, v0), (0, v1), (1, v2), zJ, (0, v4), (0, v5), (0, v6), (0, v7)] [(0, x5), (1, v2)] kd m6 (zqL kd q)
    refine EvX.if_eq (off := 15) (tgt := 103) (by decide +kernel) (by decide) (fun hc => ?_) (fun hc => ?_)
    · have h := h.1 hc
      refine EvX.blk (pc' := 109) [(.lconst 0, 0, 0), (.ladd, 0, 0), (.lstore_n 2, 0, 0), (.iinc 7 1, 0, 0)] (by decide +kernel) trivial ?_
      show Ev (d + 1) M_Mo_mean 0 0 109 [(2, v0), (0, v1), (1, lw64 (v2 + 0)), zJ, (0, v4), (0, v5), (0, v6), (0, iw (v7 + 1))] [] kd m6 (zqL kd q)
      refine EvX.goto (off := (-44)) (tgt := 65) (by decide +kernel) (by decide) ?_
      exact h
    · have h := h.2 hc
      refine EvX.blk (pc' := 96) [(.aload_n 0, 0, 0), (.iload 4, 0, 0), (.iload 5, 0, 0)] (by decide +kernel) trivial ?_
      show Ev (d + 1) M_Mo_mean 0 0 96 [(2, v0), (0, v1), (1, v2), zJ, (0, v4), (0, v5), (0, v6), (0, v7)] [(0, v5), (0, v4), (2, v0), (1, v2)] kd m6 (zqL kd q)
      obtain ⟨ov, h⟩ := h
      obtain ⟨q7, hq, h⟩ := h
      refine EvX.callV (c := 8) (mc := 0) (ms := 0) (as := [(0, v4), (0, v5)]) (st := [(1, v2)]) (by decide +kernel) l_Mo_180 k_Mo_weightOf v_Mo_weightOf a_Mo_weightOf (by decide) (Nat.le_of_ble_eq_true rfl) rfl ov hq (fun r kd1 m9 hr => ?_)
      obtain ⟨x8, rfl, hk, hr⟩ := hr
      subst kd1
      have h := h x8 m9 hr
      show Ev (d + 1) M_Mo_mean 0 0 99 [(2, v0), (0, v1), (1, v2), zJ, (0, v4), (0, v5), (0, v6), (0, v7)] [(0, x8), (1, v2)] kd m9 (zqL kd q)
      refine EvX.blk (pc' := 100) [(.i2l, 0, 0)] (by decide +kernel) trivial ?_
      show Ev (d + 1) M_Mo_mean 0 0 100 [(2, v0), (0, v1), (1, v2), zJ, (0, v4), (0, v5), (0, v6), (0, v7)] [(1, x8), (1, v2)] kd m9 (zqL kd q)
      refine EvX.goto (off := 4) (tgt := 104) (by decide +kernel) (by decide) ?_
      refine EvX.blk (pc' := 109) [(.ladd, 0, 0), (.lstore_n 2, 0, 0), (.iinc 7 1, 0, 0)] (by decide +kernel) trivial ?_
      show Ev (d + 1) M_Mo_mean 0 0 109 [(2, v0), (0, v1), (1, lw64 (v2 + x8)), zJ, (0, v4), (0, v5), (0, v6), (0, iw (v7 + 1))] [] kd m9 (zqL kd q)
      refine EvX.goto (off := (-44)) (tgt := 65) (by decide +kernel) (by decide) ?_
      exact h
set_option maxRecDepth 20000 in
set_option maxHeartbeats 1000000 in
theorem T_Mo_toldWorth_0 {d : Nat} {kd : ZK} {m : ZM} {q : Int → ZM → Prop} {v0 v1 : Int} (h : (Ev (d + 1) M_Mo_toldWorth 0 0 4 [(2, v0), (0, v1), (0, 0), (0, 0), zJ, zJ, zJ, zJ, zJ] [] kd m (zqI kd q))) : Ev (d + 1) M_Mo_toldWorth 0 0 0 [(2, v0), (0, v1), zJ, zJ, zJ, zJ, zJ, zJ, zJ] [] kd m (zqI kd q) := by
  refine EvX.blk (pc' := 4) [(.iconst 0, 0, 0), (.istore_n 2, 0, 0), (.iconst 0, 0, 0), (.istore_n 3, 0, 0)] (by decide +kernel) trivial ?_
  show Ev (d + 1) M_Mo_toldWorth 0 0 4 [(2, v0), (0, v1), (0, 0), (0, 0), zJ, zJ, zJ, zJ, zJ] [] kd m (zqI kd q)
  exact h
theorem S_Mo_toldWorth {d : Nat} {kd : ZK} {m : ZM} {q : Int → ZM → Prop} {v0 v1 : Int} (h : (Ev (d + 1) M_Mo_toldWorth 0 0 4 [(2, v0), (0, v1), (0, 0), (0, 0), zJ, zJ, zJ, zJ, zJ] [] kd m (zqI kd q))) : CtI (d + 1) M_Mo_toldWorth [(2, v0), (0, v1)] kd m q :=
  Ct.start k_Mo_toldWorth (Nat.le_of_ble_eq_true rfl) ⟨1, Or.inr (Or.inl ⟨rfl, rfl⟩)⟩ (T_Mo_toldWorth_0 h)
set_option maxRecDepth 20000 in
set_option maxHeartbeats 1000000 in
theorem T_Mo_toldWorth_4 {d : Nat} {kd : ZK} {m : ZM} {q : Int → ZM → Prop} {v0 v1 v2 v3 : Int} (h : (zobj kd v0 8 ∧ ∃ q1, CtI d M_Mo_questions [(2, v0), (0, 1)] kd m q1 ∧ ∀ x2 m3, q1 x2 m3 → ((x2 ≤ v3 → q v2 m3) ∧ (¬ x2 ≤ v3 → (Ev (d + 1) M_Mo_toldWorth 0 0 16 [(2, v0), (0, v1), (0, v2), (0, v3), (0, 0), zJ, zJ, zJ, zJ] [] kd m3 (zqI kd q)))))) : Ev (d + 1) M_Mo_toldWorth 0 0 4 [(2, v0), (0, v1), (0, v2), (0, v3), zJ, zJ, zJ, zJ, zJ] [] kd m (zqI kd q) := by
  refine EvX.blk (pc' := 7) [(.iload_n 3, 0, 0), (.aload_n 0, 0, 0), (.iconst 1, 0, 0)] (by decide +kernel) trivial ?_
  show Ev (d + 1) M_Mo_toldWorth 0 0 7 [(2, v0), (0, v1), (0, v2), (0, v3), zJ, zJ, zJ, zJ, zJ] [(0, 1), (2, v0), (0, v3)] kd m (zqI kd q)
  obtain ⟨ov, h⟩ := h
  obtain ⟨q1, hq, h⟩ := h
  refine EvX.callV (c := 8) (mc := 0) (ms := 0) (as := [(0, 1)]) (st := [(0, v3)]) (by decide +kernel) l_Mo_163 k_Mo_questions v_Mo_questions a_Mo_questions (by decide) (Nat.le_of_ble_eq_true rfl) rfl ov hq (fun r kd1 m3 hr => ?_)
  obtain ⟨x2, rfl, hk, hr⟩ := hr
  subst kd1
  have h := h x2 m3 hr
  show Ev (d + 1) M_Mo_toldWorth 0 0 10 [(2, v0), (0, v1), (0, v2), (0, v3), zJ, zJ, zJ, zJ, zJ] [(0, x2), (0, v3)] kd m3 (zqI kd q)
  refine EvX.icmp_ge (off := 128) (tgt := 138) (by decide +kernel) (by decide) (fun hc => ?_) (fun hc => ?_)
  · have h := h.1 hc
    refine EvX.blk (pc' := 139) [(.iload_n 2, 0, 0)] (by decide +kernel) trivial ?_
    show Ev (d + 1) M_Mo_toldWorth 0 0 139 [(2, v0), (0, v1), (0, v2), (0, v3), zJ, zJ, zJ, zJ, zJ] [(0, v2)] kd m3 (zqI kd q)
    exact EvX.ret (r := (0, v2)) (by decide +kernel) rfl ⟨_, rfl, rfl, h⟩
  · have h := h.2 hc
    refine EvX.blk (pc' := 16) [(.iconst 0, 0, 0), (.istore 4, 0, 0)] (by decide +kernel) trivial ?_
    show Ev (d + 1) M_Mo_toldWorth 0 0 16 [(2, v0), (0, v1), (0, v2), (0, v3), (0, 0), zJ, zJ, zJ, zJ] [] kd m3 (zqI kd q)
    exact h
set_option maxRecDepth 20000 in
set_option maxHeartbeats 1000000 in
theorem T_Mo_toldWorth_16 {d : Nat} {kd : ZK} {m : ZM} {q : Int → ZM → Prop} {v0 v1 v2 v3 v4 : Int} (h : ((2 ≤ v4 → (Ev (d + 1) M_Mo_toldWorth 0 0 4 [(2, v0), (0, v1), (0, v2), (0, iw (v3 + 1)), zJ, zJ, zJ, zJ, zJ] [] kd m (zqI kd q))) ∧ (¬ 2 ≤ v4 → (Ev (d + 1) M_Mo_toldWorth 0 0 28 [(2, v0), (0, v1), (0, v2), (0, v3), (0, v4), (0, 0), (0, 0), zJ, zJ] [] kd m (zqI kd q))))) : Ev (d + 1) M_Mo_toldWorth 0 0 16 [(2, v0), (0, v1), (0, v2), (0, v3), (0, v4), zJ, zJ, zJ, zJ] [] kd m (zqI kd q) := by
  refine EvX.blk (pc' := 19) [(.iload 4, 0, 0), (.iconst 2, 0, 0)] (by decide +kernel) trivial ?_
  show Ev (d + 1) M_Mo_toldWorth 0 0 19 [(2, v0), (0, v1), (0, v2), (0, v3), (0, v4), zJ, zJ, zJ, zJ] [(0, 2), (0, v4)] kd m (zqI kd q)
  refine EvX.icmp_ge (off := 113) (tgt := 132) (by decide +kernel) (by decide) (fun hc => ?_) (fun hc => ?_)
  · have h := h.1 hc
    refine EvX.blk (pc' := 135) [(.iinc 3 1, 0, 0)] (by decide +kernel) trivial ?_
    show Ev (d + 1) M_Mo_toldWorth 0 0 135 [(2, v0), (0, v1), (0, v2), (0, iw (v3 + 1)), (0, v4), zJ, zJ, zJ, zJ] [] kd m (zqI kd q)
    refine EvX.goto (off := (-131)) (tgt := 4) (by decide +kernel) (by decide) ?_
    exact EvX.weak (ls2 := [(2, v0), (0, v1), (0, v2), (0, iw (v3 + 1)), zJ, zJ, zJ, zJ, zJ]) (zwk_of ⟨Or.inr rfl, Or.inr rfl, Or.inr rfl, Or.inr rfl, Or.inl rfl, Or.inl rfl, Or.inl rfl, Or.inl rfl, Or.inl rfl, trivial⟩) h
  · have h := h.2 hc
    refine EvX.blk (pc' := 28) [(.iconst 0, 0, 0), (.istore 5, 0, 0), (.iconst 0, 0, 0), (.istore 6, 0, 0)] (by decide +kernel) trivial ?_
    show Ev (d + 1) M_Mo_toldWorth 0 0 28 [(2, v0), (0, v1), (0, v2), (0, v3), (0, v4), (0, 0), (0, 0), zJ, zJ] [] kd m (zqI kd q)
    exact h
set_option maxRecDepth 20000 in
set_option maxHeartbeats 1000000 in
theorem T_Mo_toldWorth_28 {d : Nat} {kd : ZK} {m : ZM} {q : Int → ZM → Prop} {v0 v1 v2 v3 v4 v5 v6 : Int} (h : (zobj kd v0 8 ∧ ∃ q1, CtI d M_Mo_answers [(2, v0), (0, 1)] kd m q1 ∧ ∀ x2 m3, q1 x2 m3 → ((x2 ≤ v6 → (Ev (d + 1) M_Mo_toldWorth 0 0 16 [(2, v0), (0, v1), (0, iw (v2 + v5)), (0, v3), (0, iw (v4 + 1)), zJ, zJ, zJ, zJ] [] kd m3 (zqI kd q))) ∧ (¬ x2 ≤ v6 → (Ev (d + 1) M_Mo_toldWorth 0 0 44 [(2, v0), (0, v1), (0, v2), (0, v3), (0, v4), (0, v5), (0, v6), (0, 0), (0, 0)] [] kd m3 (zqI kd q)))))) : Ev (d + 1) M_Mo_toldWorth 0 0 28 [(2, v0), (0, v1), (0, v2), (0, v3), (0, v4), (0, v5), (0, v6), zJ, zJ] [] kd m (zqI kd q) := by
  refine EvX.blk (pc' := 32) [(.iload 6, 0, 0), (.aload_n 0, 0, 0), (.iconst 1, 0, 0)] (by decide +kernel) trivial ?_
  show Ev (d + 1) M_Mo_toldWorth 0 0 32 [(2, v0), (0, v1), (0, v2), (0, v3), (0, v4), (0, v5), (0, v6), zJ, zJ] [(0, 1), (2, v0), (0, v6)] kd m (zqI kd q)
  obtain ⟨ov, h⟩ := h
  obtain ⟨q1, hq, h⟩ := h
  refine EvX.callV (c := 8) (mc := 0) (ms := 0) (as := [(0, 1)]) (st := [(0, v6)]) (by decide +kernel) l_Mo_167 k_Mo_answers v_Mo_answers a_Mo_answers (by decide) (Nat.le_of_ble_eq_true rfl) rfl ov hq (fun r kd1 m3 hr => ?_)
  obtain ⟨x2, rfl, hk, hr⟩ := hr
  subst kd1
  have h := h x2 m3 hr
  show Ev (d + 1) M_Mo_toldWorth 0 0 35 [(2, v0), (0, v1), (0, v2), (0, v3), (0, v4), (0, v5), (0, v6), zJ, zJ] [(0, x2), (0, v6)] kd m3 (zqI kd q)
  refine EvX.icmp_ge (off := 86) (tgt := 121) (by decide +kernel) (by decide) (fun hc => ?_) (fun hc => ?_)
  · have h := h.1 hc
    refine EvX.blk (pc' := 129) [(.iload_n 2, 0, 0), (.iload 5, 0, 0), (.iadd, 0, 0), (.istore_n 2, 0, 0), (.iinc 4 1, 0, 0)] (by decide +kernel) trivial ?_
    show Ev (d + 1) M_Mo_toldWorth 0 0 129 [(2, v0), (0, v1), (0, iw (v2 + v5)), (0, v3), (0, iw (v4 + 1)), (0, v5), (0, v6), zJ, zJ] [] kd m3 (zqI kd q)
    refine EvX.goto (off := (-113)) (tgt := 16) (by decide +kernel) (by decide) ?_
    exact EvX.weak (ls2 := [(2, v0), (0, v1), (0, iw (v2 + v5)), (0, v3), (0, iw (v4 + 1)), zJ, zJ, zJ, zJ]) (zwk_of ⟨Or.inr rfl, Or.inr rfl, Or.inr rfl, Or.inr rfl, Or.inr rfl, Or.inl rfl, Or.inl rfl, Or.inl rfl, Or.inl rfl, trivial⟩) h
  · have h := h.2 hc
    refine EvX.blk (pc' := 44) [(.iconst 0, 0, 0), (.istore 7, 0, 0), (.iconst 0, 0, 0), (.istore 8, 0, 0)] (by decide +kernel) trivial ?_
    show Ev (d + 1) M_Mo_toldWorth 0 0 44 [(2, v0), (0, v1), (0, v2), (0, v3), (0, v4), (0, v5), (0, v6), (0, 0), (0, 0)] [] kd m3 (zqI kd q)
    exact h
set_option maxRecDepth 20000 in
set_option maxHeartbeats 1000000 in
theorem T_Mo_toldWorth_44 {d : Nat} {kd : ZK} {m : ZM} {q : Int → ZM → Prop} {v0 v1 v2 v3 v4 v5 v6 v7 v8 : Int} (h : (zobj kd v0 8 ∧ ∃ q1, CtI d M_Mo_questions [(2, v0), (0, 0)] kd m q1 ∧ ∀ x2 m3, q1 x2 m3 → ((x2 ≤ v8 → (Ev (d + 1) M_Mo_toldWorth 0 0 28 [(2, v0), (0, v1), (0, v2), (0, v3), (0, v4), (0, zmax v5 v7), (0, iw (v6 + 1)), zJ, zJ] [] kd m3 (zqI kd q))) ∧ (¬ x2 ≤ v8 → (((zand (zshr v1 v8) 1) ≠ v4 → (Ev (d + 1) M_Mo_toldWorth 0 0 44 [(2, v0), (0, v1), (0, v2), (0, v3), (0, v4), (0, v5), (0, v6), (0, iw (v7 + 0)), (0, iw (v8 + 1))] [] kd m3 (zqI kd q))) ∧ (¬ (zand (zshr v1 v8) 1) ≠ v4 → (zobj kd v0 8 ∧ zIn kd (m3 v0 12) 0 v8 ∧ (zobj kd v0 8 ∧ ∃ q4, CtI d M_Mo_isWin [(2, v0), (0, v8), (0, v3), (0, m3 (m3 v0 12) v8), (0, v6)] kd m3 q4 ∧ ∀ x5 m6, q4 x5 m6 → ((x5 = 0 → (Ev (d + 1) M_Mo_toldWorth 0 0 44 [(2, v0), (0, v1), (0, v2), (0, v3), (0, v4), (0, v5), (0, v6), (0, iw (v7 + 0)), (0, iw (v8 + 1))] [] kd m6 (zqI kd q))) ∧ (¬ x5 = 0 → (zobj kd v0 8 ∧ ∃ q7, CtI d M_Mo_weightOf [(2, v0), (0, v8), (0, v3)] kd m6 q7 ∧ ∀ x8 m9, q7 x8 m9 → (Ev (d + 1) M_Mo_toldWorth 0 0 44 [(2, v0), (0, v1), (0, v2), (0, v3), (0, v4), (0, v5), (0, v6), (0, iw (v7 + x8)), (0, iw (v8 + 1))] [] kd m9 (zqI kd q))))))))))))) : Ev (d + 1) M_Mo_toldWorth 0 0 44 [(2, v0), (0, v1), (0, v2), (0, v3), (0, v4), (0, v5), (0, v6), (0, v7), (0, v8)] [] kd m (zqI kd q) := by
  refine EvX.blk (pc' := 48) [(.iload 8, 0, 0), (.aload_n 0, 0, 0), (.iconst 0, 0, 0)] (by decide +kernel) trivial ?_
  show Ev (d + 1) M_Mo_toldWorth 0 0 48 [(2, v0), (0, v1), (0, v2), (0, v3), (0, v4), (0, v5), (0, v6), (0, v7), (0, v8)] [(0, 0), (2, v0), (0, v8)] kd m (zqI kd q)
  obtain ⟨ov, h⟩ := h
  obtain ⟨q1, hq, h⟩ := h
  refine EvX.callV (c := 8) (mc := 0) (ms := 0) (as := [(0, 0)]) (st := [(0, v8)]) (by decide +kernel) l_Mo_163 k_Mo_questions v_Mo_questions a_Mo_questions (by decide) (Nat.le_of_ble_eq_true rfl) rfl ov hq (fun r kd1 m3 hr => ?_)
  obtain ⟨x2, rfl, hk, hr⟩ := hr
  subst kd1
  have h := h x2 m3 hr
  show Ev (d + 1) M_Mo_toldWorth 0 0 51 [(2, v0), (0, v1), (0, v2), (0, v3), (0, v4), (0, v5), (0, v6), (0, v7), (0, v8)] [(0, x2), (0, v8)] kd m3 (zqI kd q)
  refine EvX.icmp_ge (off := 55) (tgt := 106) (by decide +kernel) (by decide) (fun hc => ?_) (fun hc => ?_)
  · have h := h.1 hc
    refine EvX.blk (pc' := 110) [(.iload 5, 0, 0), (.iload 7, 0, 0)] (by decide +kernel) trivial ?_
    show Ev (d + 1) M_Mo_toldWorth 0 0 110 [(2, v0), (0, v1), (0, v2), (0, v3), (0, v4), (0, v5), (0, v6), (0, v7), (0, v8)] [(0, v7), (0, v5)] kd m3 (zqI kd q)
    refine EvX.mmax' (by decide +kernel) y_Mo_253 (Nat.le_of_ble_eq_true rfl) ?_
    show Ev (d + 1) M_Mo_toldWorth 0 0 113 [(2, v0), (0, v1), (0, v2), (0, v3), (0, v4), (0, v5), (0, v6), (0, v7), (0, v8)] [(0, zmax v5 v7)] kd m3 (zqI kd q)
    refine EvX.blk (pc' := 118) [(.istore 5, 0, 0), (.iinc 6 1, 0, 0)] (by decide +kernel) trivial ?_
    show Ev (d + 1) M_Mo_toldWorth 0 0 118 [(2, v0), (0, v1), (0, v2), (0, v3), (0, v4), (0, zmax v5 v7), (0, iw (v6 + 1)), (0, v7), (0, v8)] [] kd m3 (zqI kd q)
    refine EvX.goto (off := (-90)) (tgt := 28) (by decide +kernel) (by decide) ?_
    exact EvX.weak (ls2 := [(2, v0), (0, v1), (0, v2), (0, v3), (0, v4), (0, zmax v5 v7), (0, iw (v6 + 1)), zJ, zJ]) (zwk_of ⟨Or.inr rfl, Or.inr rfl, Or.inr rfl, Or.inr rfl, Or.inr rfl, Or.inr rfl, Or.inr rfl, Or.inl rfl, Or.inl rfl, trivial⟩) h
  · have h := h.2 hc
    refine EvX.blk (pc' := 64) [(.iload 7, 0, 0), (.iload_n 1, 0, 0), (.iload 8, 0, 0), (.ishr, 0, 0), (.iconst 1, 0, 0), (.iand, 0, 0), (.iload 4, 0, 0)] (by decide +kernel) trivial ?_
    show Ev (d + 1) M_Mo_toldWorth 0 0 64 [(2, v0), (0, v1), (0, v2), (0, v3), (0, v4), (0, v5), (0, v6), (0, v7), (0, v8)] [(0, v4), (0, zand (zshr v1 v8) 1), (0, v7)] kd m3 (zqI kd q)
    refine EvX.icmp_ne (off := 32) (tgt := 96) (by decide +kernel) (by decide) (fun hc => ?_) (fun hc => ?_)
    · have h := h.1 hc
      refine EvX.blk (pc' := 103) [(.iconst 0, 0, 0), (.iadd, 0, 0), (.istore 7, 0, 0), (.iinc 8 1, 0, 0)] (by decide +kernel) trivial ?_
      show Ev (d + 1) M_Mo_toldWorth 0 0 103 [(2, v0), (0, v1), (0, v2), (0, v3), (0, v4), (0, v5), (0, v6), (0, iw (v7 + 0)), (0, iw (v8 + 1))] [] kd m3 (zqI kd q)
      refine EvX.goto (off := (-59)) (tgt := 44) (by decide +kernel) (by decide) ?_
      exact h
    · have h := h.2 hc
      obtain ⟨o1, o2, h⟩ := h
      refine EvX.blk (pc' := 80) [(.aload_n 0, 0, 0), (.iload 8, 0, 0), (.iload_n 3, 0, 0), (.aload_n 0, 0, 0), (.getfield 33, 8, 12), (.iload 8, 0, 0), (.iaload, 0, 0), (.iload 6, 0, 0)] (by decide +kernel) ⟨g_Mo_33, trivial⟩ ⟨o1, o2, ?_⟩
      show Ev (d + 1) M_Mo_toldWorth 0 0 80 [(2, v0), (0, v1), (0, v2), (0, v3), (0, v4), (0, v5), (0, v6), (0, v7), (0, v8)] [(0, v6), (0, m3 (m3 v0 12) v8), (0, v3), (0, v8), (2, v0), (0, v7)] kd m3 (zqI kd q)
      obtain ⟨ov, h⟩ := h
      obtain ⟨q4, hq, h⟩ := h
      refine EvX.callV (c := 8) (mc := 0) (ms := 0) (as := [(0, v8), (0, v3), (0, m3 (m3 v0 12) v8), (0, v6)]) (st := [(0, v7)]) (by decide +kernel) l_Mo_197 k_Mo_isWin v_Mo_isWin a_Mo_isWin (by decide) (Nat.le_of_ble_eq_true rfl) rfl ov hq (fun r kd1 m6 hr => ?_)
      obtain ⟨x5, rfl, hk, hr⟩ := hr
      subst kd1
      have h := h x5 m6 hr
      show Ev (d + 1) M_Mo_toldWorth 0 0 83 [(2, v0), (0, v1), (0, v2), (0, v3), (0, v4), (0, v5), (0, v6), (0, v7), (0, v8)] [(0, x5), (0, v7)] kd m6 (zqI kd q)
      refine EvX.if_eq (off := 13) (tgt := 96) (by decide +kernel) (by decide) (fun hc => ?_) (fun hc => ?_)
      · have h := h.1 hc
        refine EvX.blk (pc' := 103) [(.iconst 0, 0, 0), (.iadd, 0, 0), (.istore 7, 0, 0), (.iinc 8 1, 0, 0)] (by decide +kernel) trivial ?_
        show Ev (d + 1) M_Mo_toldWorth 0 0 103 [(2, v0), (0, v1), (0, v2), (0, v3), (0, v4), (0, v5), (0, v6), (0, iw (v7 + 0)), (0, iw (v8 + 1))] [] kd m6 (zqI kd q)
        refine EvX.goto (off := (-59)) (tgt := 44) (by decide +kernel) (by decide) ?_
        exact h
      · have h := h.2 hc
        refine EvX.blk (pc' := 90) [(.aload_n 0, 0, 0), (.iload 8, 0, 0), (.iload_n 3, 0, 0)] (by decide +kernel) trivial ?_
        show Ev (d + 1) M_Mo_toldWorth 0 0 90 [(2, v0), (0, v1), (0, v2), (0, v3), (0, v4), (0, v5), (0, v6), (0, v7), (0, v8)] [(0, v3), (0, v8), (2, v0), (0, v7)] kd m6 (zqI kd q)
        obtain ⟨ov, h⟩ := h
        obtain ⟨q7, hq, h⟩ := h
        refine EvX.callV (c := 8) (mc := 0) (ms := 0) (as := [(0, v8), (0, v3)]) (st := [(0, v7)]) (by decide +kernel) l_Mo_180 k_Mo_weightOf v_Mo_weightOf a_Mo_weightOf (by decide) (Nat.le_of_ble_eq_true rfl) rfl ov hq (fun r kd1 m9 hr => ?_)
        obtain ⟨x8, rfl, hk, hr⟩ := hr
        subst kd1
        have h := h x8 m9 hr
        show Ev (d + 1) M_Mo_toldWorth 0 0 93 [(2, v0), (0, v1), (0, v2), (0, v3), (0, v4), (0, v5), (0, v6), (0, v7), (0, v8)] [(0, x8), (0, v7)] kd m9 (zqI kd q)
        refine EvX.goto (off := 4) (tgt := 97) (by decide +kernel) (by decide) ?_
        refine EvX.blk (pc' := 103) [(.iadd, 0, 0), (.istore 7, 0, 0), (.iinc 8 1, 0, 0)] (by decide +kernel) trivial ?_
        show Ev (d + 1) M_Mo_toldWorth 0 0 103 [(2, v0), (0, v1), (0, v2), (0, v3), (0, v4), (0, v5), (0, v6), (0, iw (v7 + x8)), (0, iw (v8 + 1))] [] kd m9 (zqI kd q)
        refine EvX.goto (off := (-59)) (tgt := 44) (by decide +kernel) (by decide) ?_
        exact h
set_option maxRecDepth 20000 in
set_option maxHeartbeats 1000000 in
theorem T_Mo_talk_0 {d : Nat} {kd : ZK} {m : ZM} {q : Int → ZM → Prop} {v0 v1 : Int} (h : (zobj kd v0 8 ∧ ∃ q1, CtI d M_Mo_hasGame [(2, v0)] kd m q1 ∧ ∀ x2 m3, q1 x2 m3 → ((x2 = 0 → q (-1) m3) ∧ (¬ x2 = 0 → (∃ q4, CtI d M_Mo_in [(1, v1), (1, 0), (1, 1)] kd m3 q4 ∧ ∀ x5 m6, q4 x5 m6 → ((x5 ≠ 0 → (Ev (d + 1) M_Mo_talk 0 0 26 [(2, v0), (0, v1), (0, (-1)), (0, 0), (0, 0), zJ, zJ] [] kd m6 (zqI kd q))) ∧ (¬ x5 ≠ 0 → q (-1) m6))))))) : Ev (d + 1) M_Mo_talk 0 0 0 [(2, v0), (0, v1), zJ, zJ, zJ, zJ, zJ] [] kd m (zqI kd q) := by
  refine EvX.blk (pc' := 1) [(.aload_n 0, 0, 0)] (by decide +kernel) trivial ?_
  show Ev (d + 1) M_Mo_talk 0 0 1 [(2, v0), (0, v1), zJ, zJ, zJ, zJ, zJ] [(2, v0)] kd m (zqI kd q)
  obtain ⟨ov, h⟩ := h
  obtain ⟨q1, hq, h⟩ := h
  refine EvX.callV (c := 8) (mc := 0) (ms := 0) (as := []) (st := []) (by decide +kernel) l_Mo_215 k_Mo_hasGame v_Mo_hasGame a_Mo_hasGame (by decide) (Nat.le_of_ble_eq_true rfl) rfl ov hq (fun r kd1 m3 hr => ?_)
  obtain ⟨x2, rfl, hk, hr⟩ := hr
  subst kd1
  have h := h x2 m3 hr
  show Ev (d + 1) M_Mo_talk 0 0 4 [(2, v0), (0, v1), zJ, zJ, zJ, zJ, zJ] [(0, x2)] kd m3 (zqI kd q)
  refine EvX.if_eq (off := 13) (tgt := 17) (by decide +kernel) (by decide) (fun hc => ?_) (fun hc => ?_)
  · have h := h.1 hc
    refine EvX.blk (pc' := 18) [(.iconst (-1), 0, 0)] (by decide +kernel) trivial ?_
    show Ev (d + 1) M_Mo_talk 0 0 18 [(2, v0), (0, v1), zJ, zJ, zJ, zJ, zJ] [(0, (-1))] kd m3 (zqI kd q)
    exact EvX.ret (r := (0, (-1))) (by decide +kernel) rfl ⟨_, rfl, rfl, h⟩
  · have h := h.2 hc
    refine EvX.blk (pc' := 11) [(.iload_n 1, 0, 0), (.i2l, 0, 0), (.lconst 0, 0, 0), (.lconst 1, 0, 0)] (by decide +kernel) trivial ?_
    show Ev (d + 1) M_Mo_talk 0 0 11 [(2, v0), (0, v1), zJ, zJ, zJ, zJ, zJ] [(1, 1), (1, 0), (1, v1)] kd m3 (zqI kd q)
    obtain ⟨q4, hq, h⟩ := h
    refine EvX.callS (mc := 0) (ms := 0) (as := [(1, v1), (1, 0), (1, 1)]) (st := []) (by decide +kernel) l_Mo_93 k_Mo_in s_Mo_in a_Mo_in (by decide) (Nat.le_of_ble_eq_true rfl) hq (fun r kd1 m6 hr => ?_)
    obtain ⟨x5, rfl, hk, hr⟩ := hr
    subst kd1
    have h := h x5 m6 hr
    show Ev (d + 1) M_Mo_talk 0 0 14 [(2, v0), (0, v1), zJ, zJ, zJ, zJ, zJ] [(0, x5)] kd m6 (zqI kd q)
    refine EvX.if_ne (off := 5) (tgt := 19) (by decide +kernel) (by decide) (fun hc => ?_) (fun hc => ?_)
    · have h := h.1 hc
      refine EvX.blk (pc' := 26) [(.iconst (-1), 0, 0), (.istore_n 2, 0, 0), (.iconst 0, 0, 0), (.istore_n 3, 0, 0), (.iconst 0, 0, 0), (.istore 4, 0, 0)] (by decide +kernel) trivial ?_
      show Ev (d + 1) M_Mo_talk 0 0 26 [(2, v0), (0, v1), (0, (-1)), (0, 0), (0, 0), zJ, zJ] [] kd m6 (zqI kd q)
      exact h
    · have h := h.2 hc
      refine EvX.blk (pc' := 18) [(.iconst (-1), 0, 0)] (by decide +kernel) trivial ?_
      show Ev (d + 1) M_Mo_talk 0 0 18 [(2, v0), (0, v1), zJ, zJ, zJ, zJ, zJ] [(0, (-1))] kd m6 (zqI kd q)
      exact EvX.ret (r := (0, (-1))) (by decide +kernel) rfl ⟨_, rfl, rfl, h⟩
theorem S_Mo_talk {d : Nat} {kd : ZK} {m : ZM} {q : Int → ZM → Prop} {v0 v1 : Int} (h : (zobj kd v0 8 ∧ ∃ q1, CtI d M_Mo_hasGame [(2, v0)] kd m q1 ∧ ∀ x2 m3, q1 x2 m3 → ((x2 = 0 → q (-1) m3) ∧ (¬ x2 = 0 → (∃ q4, CtI d M_Mo_in [(1, v1), (1, 0), (1, 1)] kd m3 q4 ∧ ∀ x5 m6, q4 x5 m6 → ((x5 ≠ 0 → (Ev (d + 1) M_Mo_talk 0 0 26 [(2, v0), (0, v1), (0, (-1)), (0, 0), (0, 0), zJ, zJ] [] kd m6 (zqI kd q))) ∧ (¬ x5 ≠ 0 → q (-1) m6))))))) : CtI (d + 1) M_Mo_talk [(2, v0), (0, v1)] kd m q :=
  Ct.start k_Mo_talk (Nat.le_of_ble_eq_true rfl) ⟨1, Or.inr (Or.inl ⟨rfl, rfl⟩)⟩ (T_Mo_talk_0 h)
set_option maxRecDepth 20000 in
set_option maxHeartbeats 1000000 in
theorem T_Mo_talk_26 {d : Nat} {kd : ZK} {m : ZM} {q : Int → ZM → Prop} {v0 v1 v2 v3 v4 : Int} (h : (zobj kd v0 8 ∧ ∃ q1, CtI d M_Mo_questions [(2, v0), (0, 0)] kd m q1 ∧ ∀ x2 m3, q1 x2 m3 → (((zshl 1 x2) ≤ v4 → ((v1 ≠ 0 → q v3 m3) ∧ (¬ v1 ≠ 0 → q v2 m3))) ∧ (¬ (zshl 1 x2) ≤ v4 → (zobj kd v0 8 ∧ ∃ q4, CtV d M_Mo_laysFirst [(2, v0), (0, 0)] kd m3 q4 ∧ ∀ m6, q4 m6 → (Ev (d + 1) M_Mo_talk 0 0 46 [(2, v0), (0, v1), (0, v2), (0, v3), (0, v4), (0, 1), zJ] [] kd m6 (zqI kd q))))))) : Ev (d + 1) M_Mo_talk 0 0 26 [(2, v0), (0, v1), (0, v2), (0, v3), (0, v4), zJ, zJ] [] kd m (zqI kd q) := by
  refine EvX.blk (pc' := 31) [(.iload 4, 0, 0), (.iconst 1, 0, 0), (.aload_n 0, 0, 0), (.iconst 0, 0, 0)] (by decide +kernel) trivial ?_
  show Ev (d + 1) M_Mo_talk 0 0 31 [(2, v0), (0, v1), (0, v2), (0, v3), (0, v4), zJ, zJ] [(0, 0), (2, v0), (0, 1), (0, v4)] kd m (zqI kd q)
  obtain ⟨ov, h⟩ := h
  obtain ⟨q1, hq, h⟩ := h
  refine EvX.callV (c := 8) (mc := 0) (ms := 0) (as := [(0, 0)]) (st := [(0, 1), (0, v4)]) (by decide +kernel) l_Mo_163 k_Mo_questions v_Mo_questions a_Mo_questions (by decide) (Nat.le_of_ble_eq_true rfl) rfl ov hq (fun r kd1 m3 hr => ?_)
  obtain ⟨x2, rfl, hk, hr⟩ := hr
  subst kd1
  have h := h x2 m3 hr
  show Ev (d + 1) M_Mo_talk 0 0 34 [(2, v0), (0, v1), (0, v2), (0, v3), (0, v4), zJ, zJ] [(0, x2), (0, 1), (0, v4)] kd m3 (zqI kd q)
  refine EvX.blk (pc' := 35) [(.ishl, 0, 0)] (by decide +kernel) trivial ?_
  show Ev (d + 1) M_Mo_talk 0 0 35 [(2, v0), (0, v1), (0, v2), (0, v3), (0, v4), zJ, zJ] [(0, zshl 1 x2), (0, v4)] kd m3 (zqI kd q)
  refine EvX.icmp_ge (off := 52) (tgt := 87) (by decide +kernel) (by decide) (fun hc => ?_) (fun hc => ?_)
  · have h := h.1 hc
    refine EvX.blk (pc' := 88) [(.iload_n 1, 0, 0)] (by decide +kernel) trivial ?_
    show Ev (d + 1) M_Mo_talk 0 0 88 [(2, v0), (0, v1), (0, v2), (0, v3), (0, v4), zJ, zJ] [(0, v1)] kd m3 (zqI kd q)
    refine EvX.if_ne (off := 7) (tgt := 95) (by decide +kernel) (by decide) (fun hc => ?_) (fun hc => ?_)
    · have h := h.1 hc
      refine EvX.blk (pc' := 96) [(.iload_n 3, 0, 0)] (by decide +kernel) trivial ?_
      show Ev (d + 1) M_Mo_talk 0 0 96 [(2, v0), (0, v1), (0, v2), (0, v3), (0, v4), zJ, zJ] [(0, v3)] kd m3 (zqI kd q)
      exact EvX.ret (r := (0, v3)) (by decide +kernel) rfl ⟨_, rfl, rfl, h⟩
    · have h := h.2 hc
      refine EvX.blk (pc' := 92) [(.iload_n 2, 0, 0)] (by decide +kernel) trivial ?_
      show Ev (d + 1) M_Mo_talk 0 0 92 [(2, v0), (0, v1), (0, v2), (0, v3), (0, v4), zJ, zJ] [(0, v2)] kd m3 (zqI kd q)
      refine EvX.goto (off := 4) (tgt := 96) (by decide +kernel) (by decide) ?_
      exact EvX.ret (r := (0, v2)) (by decide +kernel) rfl ⟨_, rfl, rfl, h⟩
  · have h := h.2 hc
    refine EvX.blk (pc' := 40) [(.aload_n 0, 0, 0), (.iconst 0, 0, 0)] (by decide +kernel) trivial ?_
    show Ev (d + 1) M_Mo_talk 0 0 40 [(2, v0), (0, v1), (0, v2), (0, v3), (0, v4), zJ, zJ] [(0, 0), (2, v0)] kd m3 (zqI kd q)
    obtain ⟨ov, h⟩ := h
    obtain ⟨q4, hq, h⟩ := h
    refine EvX.callV (c := 8) (mc := 0) (ms := 0) (as := [(0, 0)]) (st := []) (by decide +kernel) l_Mo_265 k_Mo_laysFirst v_Mo_laysFirst a_Mo_laysFirst (by decide) (Nat.le_of_ble_eq_true rfl) rfl ov hq (fun r kd1 m6 hr => ?_)
    obtain ⟨rfl, hk, hr⟩ := hr
    subst kd1
    have h := h m6 hr
    show Ev (d + 1) M_Mo_talk 0 0 43 [(2, v0), (0, v1), (0, v2), (0, v3), (0, v4), zJ, zJ] [] kd m6 (zqI kd q)
    refine EvX.blk (pc' := 46) [(.iconst 1, 0, 0), (.istore 5, 0, 0)] (by decide +kernel) trivial ?_
    show Ev (d + 1) M_Mo_talk 0 0 46 [(2, v0), (0, v1), (0, v2), (0, v3), (0, v4), (0, 1), zJ] [] kd m6 (zqI kd q)
    exact h
set_option maxRecDepth 20000 in
set_option maxHeartbeats 1000000 in
theorem T_Mo_talk_46 {d : Nat} {kd : ZK} {m : ZM} {q : Int → ZM → Prop} {v0 v1 v2 v3 v4 v5 : Int} (h : ((v5 = 0 → (Ev (d + 1) M_Mo_talk 0 0 26 [(2, v0), (0, v1), (0, v2), (0, v3), (0, iw (v4 + 2)), zJ, zJ] [] kd m (zqI kd q))) ∧ (¬ v5 = 0 → (zobj kd v0 8 ∧ ∃ q1, CtI d M_Mo_toldWorth [(2, v0), (0, v4)] kd m q1 ∧ ∀ x2 m3, q1 x2 m3 → ((x2 ≤ v2 → (zobj kd v0 8 ∧ ∃ q4, CtI d M_Mo_goesOn [(2, v0), (0, 0)] kd m3 q4 ∧ ∀ x5 m6, q4 x5 m6 → (Ev (d + 1) M_Mo_talk 0 0 46 [(2, v0), (0, v1), (0, v2), (0, v3), (0, v4), (0, x5), zJ] [] kd m6 (zqI kd q)))) ∧ (¬ x2 ≤ v2 → (zobj kd v0 8 ∧ ∃ q7, CtI d M_Mo_goesOn [(2, v0), (0, 0)] kd m3 q7 ∧ ∀ x8 m9, q7 x8 m9 → (Ev (d + 1) M_Mo_talk 0 0 46 [(2, v0), (0, v1), (0, x2), (0, v4), (0, v4), (0, x8), zJ] [] kd m9 (zqI kd q))))))))) : Ev (d + 1) M_Mo_talk 0 0 46 [(2, v0), (0, v1), (0, v2), (0, v3), (0, v4), (0, v5), zJ] [] kd m (zqI kd q) := by
  refine EvX.blk (pc' := 48) [(.iload 5, 0, 0)] (by decide +kernel) trivial ?_
  show Ev (d + 1) M_Mo_talk 0 0 48 [(2, v0), (0, v1), (0, v2), (0, v3), (0, v4), (0, v5), zJ] [(0, v5)] kd m (zqI kd q)
  refine EvX.if_eq (off := 33) (tgt := 81) (by decide +kernel) (by decide) (fun hc => ?_) (fun hc => ?_)
  · have h := h.1 hc
    refine EvX.blk (pc' := 84) [(.iinc 4 2, 0, 0)] (by decide +kernel) trivial ?_
    show Ev (d + 1) M_Mo_talk 0 0 84 [(2, v0), (0, v1), (0, v2), (0, v3), (0, iw (v4 + 2)), (0, v5), zJ] [] kd m (zqI kd q)
    refine EvX.goto (off := (-58)) (tgt := 26) (by decide +kernel) (by decide) ?_
    exact EvX.weak (ls2 := [(2, v0), (0, v1), (0, v2), (0, v3), (0, iw (v4 + 2)), zJ, zJ]) (zwk_of ⟨Or.inr rfl, Or.inr rfl, Or.inr rfl, Or.inr rfl, Or.inr rfl, Or.inl rfl, Or.inl rfl, trivial⟩) h
  · have h := h.2 hc
    refine EvX.blk (pc' := 54) [(.aload_n 0, 0, 0), (.iload 4, 0, 0)] (by decide +kernel) trivial ?_
    show Ev (d + 1) M_Mo_talk 0 0 54 [(2, v0), (0, v1), (0, v2), (0, v3), (0, v4), (0, v5), zJ] [(0, v4), (2, v0)] kd m (zqI kd q)
    obtain ⟨ov, h⟩ := h
    obtain ⟨q1, hq, h⟩ := h
    refine EvX.callV (c := 8) (mc := 0) (ms := 0) (as := [(0, v4)]) (st := []) (by decide +kernel) l_Mo_316 k_Mo_toldWorth v_Mo_toldWorth a_Mo_toldWorth (by decide) (Nat.le_of_ble_eq_true rfl) rfl ov hq (fun r kd1 m3 hr => ?_)
    obtain ⟨x2, rfl, hk, hr⟩ := hr
    subst kd1
    have h := h x2 m3 hr
    show Ev (d + 1) M_Mo_talk 0 0 57 [(2, v0), (0, v1), (0, v2), (0, v3), (0, v4), (0, v5), zJ] [(0, x2)] kd m3 (zqI kd q)
    refine EvX.blk (pc' := 62) [(.istore 6, 0, 0), (.iload 6, 0, 0), (.iload_n 2, 0, 0)] (by decide +kernel) trivial ?_
    show Ev (d + 1) M_Mo_talk 0 0 62 [(2, v0), (0, v1), (0, v2), (0, v3), (0, v4), (0, v5), (0, x2)] [(0, v2), (0, x2)] kd m3 (zqI kd q)
    refine EvX.icmp_le (off := 9) (tgt := 71) (by decide +kernel) (by decide) (fun hc => ?_) (fun hc => ?_)
    · have h := h.1 hc
      refine EvX.blk (pc' := 73) [(.aload_n 0, 0, 0), (.iconst 0, 0, 0)] (by decide +kernel) trivial ?_
      show Ev (d + 1) M_Mo_talk 0 0 73 [(2, v0), (0, v1), (0, v2), (0, v3), (0, v4), (0, v5), (0, x2)] [(0, 0), (2, v0)] kd m3 (zqI kd q)
      obtain ⟨ov, h⟩ := h
      obtain ⟨q4, hq, h⟩ := h
      refine EvX.callV (c := 8) (mc := 0) (ms := 0) (as := [(0, 0)]) (st := []) (by decide +kernel) l_Mo_272 k_Mo_goesOn v_Mo_goesOn a_Mo_goesOn (by decide) (Nat.le_of_ble_eq_true rfl) rfl ov hq (fun r kd1 m6 hr => ?_)
      obtain ⟨x5, rfl, hk, hr⟩ := hr
      subst kd1
      have h := h x5 m6 hr
      show Ev (d + 1) M_Mo_talk 0 0 76 [(2, v0), (0, v1), (0, v2), (0, v3), (0, v4), (0, v5), (0, x2)] [(0, x5)] kd m6 (zqI kd q)
      refine EvX.blk (pc' := 78) [(.istore 5, 0, 0)] (by decide +kernel) trivial ?_
      show Ev (d + 1) M_Mo_talk 0 0 78 [(2, v0), (0, v1), (0, v2), (0, v3), (0, v4), (0, x5), (0, x2)] [] kd m6 (zqI kd q)
      refine EvX.goto (off := (-32)) (tgt := 46) (by decide +kernel) (by decide) ?_
      exact EvX.weak (ls2 := [(2, v0), (0, v1), (0, v2), (0, v3), (0, v4), (0, x5), zJ]) (zwk_of ⟨Or.inr rfl, Or.inr rfl, Or.inr rfl, Or.inr rfl, Or.inr rfl, Or.inr rfl, Or.inl rfl, trivial⟩) h
    · have h := h.2 hc
      refine EvX.blk (pc' := 73) [(.iload 6, 0, 0), (.istore_n 2, 0, 0), (.iload 4, 0, 0), (.istore_n 3, 0, 0), (.aload_n 0, 0, 0), (.iconst 0, 0, 0)] (by decide +kernel) trivial ?_
      show Ev (d + 1) M_Mo_talk 0 0 73 [(2, v0), (0, v1), (0, x2), (0, v4), (0, v4), (0, v5), (0, x2)] [(0, 0), (2, v0)] kd m3 (zqI kd q)
      obtain ⟨ov, h⟩ := h
      obtain ⟨q7, hq, h⟩ := h
      refine EvX.callV (c := 8) (mc := 0) (ms := 0) (as := [(0, 0)]) (st := []) (by decide +kernel) l_Mo_272 k_Mo_goesOn v_Mo_goesOn a_Mo_goesOn (by decide) (Nat.le_of_ble_eq_true rfl) rfl ov hq (fun r kd1 m9 hr => ?_)
      obtain ⟨x8, rfl, hk, hr⟩ := hr
      subst kd1
      have h := h x8 m9 hr
      show Ev (d + 1) M_Mo_talk 0 0 76 [(2, v0), (0, v1), (0, x2), (0, v4), (0, v4), (0, v5), (0, x2)] [(0, x8)] kd m9 (zqI kd q)
      refine EvX.blk (pc' := 78) [(.istore 5, 0, 0)] (by decide +kernel) trivial ?_
      show Ev (d + 1) M_Mo_talk 0 0 78 [(2, v0), (0, v1), (0, x2), (0, v4), (0, v4), (0, x8), (0, x2)] [] kd m9 (zqI kd q)
      refine EvX.goto (off := (-32)) (tgt := 46) (by decide +kernel) (by decide) ?_
      exact EvX.weak (ls2 := [(2, v0), (0, v1), (0, x2), (0, v4), (0, v4), (0, x8), zJ]) (zwk_of ⟨Or.inr rfl, Or.inr rfl, Or.inr rfl, Or.inr rfl, Or.inr rfl, Or.inr rfl, Or.inl rfl, trivial⟩) h
set_option maxRecDepth 20000 in
set_option maxHeartbeats 1000000 in
theorem T_Mo_mostWithout_0 {d : Nat} {kd : ZK} {m : ZM} {q : Int → ZM → Prop} {v0 v1 v2 : Int} (h : (zobj kd v0 8 ∧ zobj kd v0 8 ∧ (∃ q1, CtV d M_Mo_moves [(2, m v0 0), (0, 0), (2, m v0 2), (0, 0)] kd m q1 ∧ ∀ m3, q1 m3 → (Ev (d + 1) M_Mo_mostWithout 0 0 15 [(2, v0), (0, v1), (0, v2), (0, 0), zJ] [] kd m3 (zqI kd q))))) : Ev (d + 1) M_Mo_mostWithout 0 0 0 [(2, v0), (0, v1), (0, v2), zJ, zJ] [] kd m (zqI kd q) := by
  obtain ⟨o1, o2, h⟩ := h
  refine EvX.blk (pc' := 10) [(.aload_n 0, 0, 0), (.getfield 9, 8, 0), (.iconst 0, 0, 0), (.aload_n 0, 0, 0), (.getfield 16, 8, 2), (.iconst 0, 0, 0)] (by decide +kernel) ⟨g_Mo_9, g_Mo_16, trivial⟩ ⟨o1, o2, ?_⟩
  show Ev (d + 1) M_Mo_mostWithout 0 0 10 [(2, v0), (0, v1), (0, v2), zJ, zJ] [(0, 0), (2, m v0 2), (0, 0), (2, m v0 0)] kd m (zqI kd q)
  obtain ⟨q1, hq, h⟩ := h
  refine EvX.callS (mc := 0) (ms := 0) (as := [(2, m v0 0), (0, 0), (2, m v0 2), (0, 0)]) (st := []) (by decide +kernel) l_Mo_156 k_Mo_moves s_Mo_moves a_Mo_moves (by decide) (Nat.le_of_ble_eq_true rfl) hq (fun r kd1 m3 hr => ?_)
  obtain ⟨rfl, hk, hr⟩ := hr
  subst kd1
  have h := h m3 hr
  show Ev (d + 1) M_Mo_mostWithout 0 0 13 [(2, v0), (0, v1), (0, v2), zJ, zJ] [] kd m3 (zqI kd q)
  refine EvX.blk (pc' := 15) [(.iconst 0, 0, 0), (.istore_n 3, 0, 0)] (by decide +kernel) trivial ?_
  show Ev (d + 1) M_Mo_mostWithout 0 0 15 [(2, v0), (0, v1), (0, v2), (0, 0), zJ] [] kd m3 (zqI kd q)
  exact h
theorem S_Mo_mostWithout {d : Nat} {kd : ZK} {m : ZM} {q : Int → ZM → Prop} {v0 v1 v2 : Int} (h : (zobj kd v0 8 ∧ zobj kd v0 8 ∧ (∃ q1, CtV d M_Mo_moves [(2, m v0 0), (0, 0), (2, m v0 2), (0, 0)] kd m q1 ∧ ∀ m3, q1 m3 → (Ev (d + 1) M_Mo_mostWithout 0 0 15 [(2, v0), (0, v1), (0, v2), (0, 0), zJ] [] kd m3 (zqI kd q))))) : CtI (d + 1) M_Mo_mostWithout [(2, v0), (0, v1), (0, v2)] kd m q :=
  Ct.start k_Mo_mostWithout (Nat.le_of_ble_eq_true rfl) ⟨1, Or.inr (Or.inl ⟨rfl, rfl⟩)⟩ (T_Mo_mostWithout_0 h)
set_option maxRecDepth 20000 in
set_option maxHeartbeats 1000000 in
theorem T_Mo_mostWithout_15 {d : Nat} {kd : ZK} {m : ZM} {q : Int → ZM → Prop} {v0 v1 v2 v3 : Int} (h : (zobj kd v0 8 ∧ ∃ q1, CtI d M_Mo_questions [(2, v0), (0, 0)] kd m q1 ∧ ∀ x2 m3, q1 x2 m3 → ((x2 ≤ v3 → (zobj kd v0 8 ∧ ∃ q4, CtI d M_Mo_mostWorth [(2, v0)] kd m3 q4 ∧ ∀ x5 m6, q4 x5 m6 → (zobj kd v0 8 ∧ zobj kd v0 8 ∧ (∃ q7, CtV d M_Mo_moves [(2, m6 v0 2), (0, 0), (2, m6 v0 0), (0, 0)] kd m6 q7 ∧ ∀ m9, q7 m9 → q x5 m9)))) ∧ (¬ x2 ≤ v3 → (Ev (d + 1) M_Mo_mostWithout 0 0 27 [(2, v0), (0, v1), (0, v2), (0, v3), (0, 0)] [] kd m3 (zqI kd q)))))) : Ev (d + 1) M_Mo_mostWithout 0 0 15 [(2, v0), (0, v1), (0, v2), (0, v3), zJ] [] kd m (zqI kd q) := by
  refine EvX.blk (pc' := 18) [(.iload_n 3, 0, 0), (.aload_n 0, 0, 0), (.iconst 0, 0, 0)] (by decide +kernel) trivial ?_
  show Ev (d + 1) M_Mo_mostWithout 0 0 18 [(2, v0), (0, v1), (0, v2), (0, v3), zJ] [(0, 0), (2, v0), (0, v3)] kd m (zqI kd q)
  obtain ⟨ov, h⟩ := h
  obtain ⟨q1, hq, h⟩ := h
  refine EvX.callV (c := 8) (mc := 0) (ms := 0) (as := [(0, 0)]) (st := [(0, v3)]) (by decide +kernel) l_Mo_163 k_Mo_questions v_Mo_questions a_Mo_questions (by decide) (Nat.le_of_ble_eq_true rfl) rfl ov hq (fun r kd1 m3 hr => ?_)
  obtain ⟨x2, rfl, hk, hr⟩ := hr
  subst kd1
  have h := h x2 m3 hr
  show Ev (d + 1) M_Mo_mostWithout 0 0 21 [(2, v0), (0, v1), (0, v2), (0, v3), zJ] [(0, x2), (0, v3)] kd m3 (zqI kd q)
  refine EvX.icmp_ge (off := 63) (tgt := 84) (by decide +kernel) (by decide) (fun hc => ?_) (fun hc => ?_)
  · have h := h.1 hc
    refine EvX.blk (pc' := 85) [(.aload_n 0, 0, 0)] (by decide +kernel) trivial ?_
    show Ev (d + 1) M_Mo_mostWithout 0 0 85 [(2, v0), (0, v1), (0, v2), (0, v3), zJ] [(2, v0)] kd m3 (zqI kd q)
    obtain ⟨ov, h⟩ := h
    obtain ⟨q4, hq, h⟩ := h
    refine EvX.callV (c := 8) (mc := 0) (ms := 0) (as := []) (st := []) (by decide +kernel) l_Mo_281 k_Mo_mostWorth v_Mo_mostWorth a_Mo_mostWorth (by decide) (Nat.le_of_ble_eq_true rfl) rfl ov hq (fun r kd1 m6 hr => ?_)
    obtain ⟨x5, rfl, hk, hr⟩ := hr
    subst kd1
    have h := h x5 m6 hr
    show Ev (d + 1) M_Mo_mostWithout 0 0 88 [(2, v0), (0, v1), (0, v2), (0, v3), zJ] [(0, x5)] kd m6 (zqI kd q)
    obtain ⟨o1, o2, h⟩ := h
    refine EvX.blk (pc' := 99) [(.istore_n 3, 0, 0), (.aload_n 0, 0, 0), (.getfield 16, 8, 2), (.iconst 0, 0, 0), (.aload_n 0, 0, 0), (.getfield 9, 8, 0), (.iconst 0, 0, 0)] (by decide +kernel) ⟨g_Mo_16, g_Mo_9, trivial⟩ ⟨o1, o2, ?_⟩
    show Ev (d + 1) M_Mo_mostWithout 0 0 99 [(2, v0), (0, v1), (0, v2), (0, x5), zJ] [(0, 0), (2, m6 v0 0), (0, 0), (2, m6 v0 2)] kd m6 (zqI kd q)
    obtain ⟨q7, hq, h⟩ := h
    refine EvX.callS (mc := 0) (ms := 0) (as := [(2, m6 v0 2), (0, 0), (2, m6 v0 0), (0, 0)]) (st := []) (by decide +kernel) l_Mo_156 k_Mo_moves s_Mo_moves a_Mo_moves (by decide) (Nat.le_of_ble_eq_true rfl) hq (fun r kd1 m9 hr => ?_)
    obtain ⟨rfl, hk, hr⟩ := hr
    subst kd1
    have h := h m9 hr
    show Ev (d + 1) M_Mo_mostWithout 0 0 102 [(2, v0), (0, v1), (0, v2), (0, x5), zJ] [] kd m9 (zqI kd q)
    refine EvX.blk (pc' := 103) [(.iload_n 3, 0, 0)] (by decide +kernel) trivial ?_
    show Ev (d + 1) M_Mo_mostWithout 0 0 103 [(2, v0), (0, v1), (0, v2), (0, x5), zJ] [(0, x5)] kd m9 (zqI kd q)
    exact EvX.ret (r := (0, x5)) (by decide +kernel) rfl ⟨_, rfl, rfl, h⟩
  · have h := h.2 hc
    refine EvX.blk (pc' := 27) [(.iconst 0, 0, 0), (.istore 4, 0, 0)] (by decide +kernel) trivial ?_
    show Ev (d + 1) M_Mo_mostWithout 0 0 27 [(2, v0), (0, v1), (0, v2), (0, v3), (0, 0)] [] kd m3 (zqI kd q)
    exact h
set_option maxRecDepth 20000 in
set_option maxHeartbeats 1000000 in
theorem T_Mo_mostWithout_27 {d : Nat} {kd : ZK} {m : ZM} {q : Int → ZM → Prop} {v0 v1 v2 v3 v4 : Int} (h : (zobj kd v0 8 ∧ ∃ q1, CtI d M_Mo_questions [(2, v0), (0, 1)] kd m q1 ∧ ∀ x2 m3, q1 x2 m3 → ((x2 ≤ v4 → (Ev (d + 1) M_Mo_mostWithout 0 0 15 [(2, v0), (0, v1), (0, v2), (0, iw (v3 + 1)), zJ] [] kd m3 (zqI kd q))) ∧ (¬ x2 ≤ v4 → ((v1 = (-1) → (Ev (d + 1) M_Mo_mostWithout 0 0 47 [(2, v0), (0, v1), (0, v2), (0, v3), (0, v4)] [] kd m3 (zqI kd q))) ∧ (¬ v1 = (-1) → ((v3 ≠ v1 → (Ev (d + 1) M_Mo_mostWithout 0 0 27 [(2, v0), (0, v1), (0, v2), (0, v3), (0, iw (v4 + 1))] [] kd m3 (zqI kd q))) ∧ (¬ v3 ≠ v1 → (Ev (d + 1) M_Mo_mostWithout 0 0 47 [(2, v0), (0, v1), (0, v2), (0, v3), (0, v4)] [] kd m3 (zqI kd q)))))))))) : Ev (d + 1) M_Mo_mostWithout 0 0 27 [(2, v0), (0, v1), (0, v2), (0, v3), (0, v4)] [] kd m (zqI kd q) := by
  refine EvX.blk (pc' := 31) [(.iload 4, 0, 0), (.aload_n 0, 0, 0), (.iconst 1, 0, 0)] (by decide +kernel) trivial ?_
  show Ev (d + 1) M_Mo_mostWithout 0 0 31 [(2, v0), (0, v1), (0, v2), (0, v3), (0, v4)] [(0, 1), (2, v0), (0, v4)] kd m (zqI kd q)
  obtain ⟨ov, h⟩ := h
  obtain ⟨q1, hq, h⟩ := h
  refine EvX.callV (c := 8) (mc := 0) (ms := 0) (as := [(0, 1)]) (st := [(0, v4)]) (by decide +kernel) l_Mo_163 k_Mo_questions v_Mo_questions a_Mo_questions (by decide) (Nat.le_of_ble_eq_true rfl) rfl ov hq (fun r kd1 m3 hr => ?_)
  obtain ⟨x2, rfl, hk, hr⟩ := hr
  subst kd1
  have h := h x2 m3 hr
  show Ev (d + 1) M_Mo_mostWithout 0 0 34 [(2, v0), (0, v1), (0, v2), (0, v3), (0, v4)] [(0, x2), (0, v4)] kd m3 (zqI kd q)
  refine EvX.icmp_ge (off := 44) (tgt := 78) (by decide +kernel) (by decide) (fun hc => ?_) (fun hc => ?_)
  · have h := h.1 hc
    refine EvX.blk (pc' := 81) [(.iinc 3 1, 0, 0)] (by decide +kernel) trivial ?_
    show Ev (d + 1) M_Mo_mostWithout 0 0 81 [(2, v0), (0, v1), (0, v2), (0, iw (v3 + 1)), (0, v4)] [] kd m3 (zqI kd q)
    refine EvX.goto (off := (-66)) (tgt := 15) (by decide +kernel) (by decide) ?_
    exact EvX.weak (ls2 := [(2, v0), (0, v1), (0, v2), (0, iw (v3 + 1)), zJ]) (zwk_of ⟨Or.inr rfl, Or.inr rfl, Or.inr rfl, Or.inr rfl, Or.inl rfl, trivial⟩) h
  · have h := h.2 hc
    refine EvX.blk (pc' := 39) [(.iload_n 1, 0, 0), (.iconst (-1), 0, 0)] (by decide +kernel) trivial ?_
    show Ev (d + 1) M_Mo_mostWithout 0 0 39 [(2, v0), (0, v1), (0, v2), (0, v3), (0, v4)] [(0, (-1)), (0, v1)] kd m3 (zqI kd q)
    refine EvX.icmp_eq (off := 8) (tgt := 47) (by decide +kernel) (by decide) (fun hc => ?_) (fun hc => ?_)
    · have h := h.1 hc
      exact h
    · have h := h.2 hc
      refine EvX.blk (pc' := 44) [(.iload_n 3, 0, 0), (.iload_n 1, 0, 0)] (by decide +kernel) trivial ?_
      show Ev (d + 1) M_Mo_mostWithout 0 0 44 [(2, v0), (0, v1), (0, v2), (0, v3), (0, v4)] [(0, v1), (0, v3)] kd m3 (zqI kd q)
      refine EvX.icmp_ne (off := 28) (tgt := 72) (by decide +kernel) (by decide) (fun hc => ?_) (fun hc => ?_)
      · have h := h.1 hc
        refine EvX.blk (pc' := 75) [(.iinc 4 1, 0, 0)] (by decide +kernel) trivial ?_
        show Ev (d + 1) M_Mo_mostWithout 0 0 75 [(2, v0), (0, v1), (0, v2), (0, v3), (0, iw (v4 + 1))] [] kd m3 (zqI kd q)
        refine EvX.goto (off := (-48)) (tgt := 27) (by decide +kernel) (by decide) ?_
        exact h
      · have h := h.2 hc
        exact h
set_option maxRecDepth 20000 in
set_option maxHeartbeats 1000000 in
theorem T_Mo_mostWithout_47 {d : Nat} {kd : ZK} {m : ZM} {q : Int → ZM → Prop} {v0 v1 v2 v3 v4 : Int} (h : ((v2 = (-1) → (Ev (d + 1) M_Mo_mostWithout 0 0 58 [(2, v0), (0, v1), (0, v2), (0, v3), (0, v4)] [] kd m (zqI kd q))) ∧ (¬ v2 = (-1) → ((v4 ≠ v2 → (Ev (d + 1) M_Mo_mostWithout 0 0 27 [(2, v0), (0, v1), (0, v2), (0, v3), (0, iw (v4 + 1))] [] kd m (zqI kd q))) ∧ (¬ v4 ≠ v2 → (Ev (d + 1) M_Mo_mostWithout 0 0 58 [(2, v0), (0, v1), (0, v2), (0, v3), (0, v4)] [] kd m (zqI kd q))))))) : Ev (d + 1) M_Mo_mostWithout 0 0 47 [(2, v0), (0, v1), (0, v2), (0, v3), (0, v4)] [] kd m (zqI kd q) := by
  refine EvX.blk (pc' := 49) [(.iload_n 2, 0, 0), (.iconst (-1), 0, 0)] (by decide +kernel) trivial ?_
  show Ev (d + 1) M_Mo_mostWithout 0 0 49 [(2, v0), (0, v1), (0, v2), (0, v3), (0, v4)] [(0, (-1)), (0, v2)] kd m (zqI kd q)
  refine EvX.icmp_eq (off := 9) (tgt := 58) (by decide +kernel) (by decide) (fun hc => ?_) (fun hc => ?_)
  · have h := h.1 hc
    exact h
  · have h := h.2 hc
    refine EvX.blk (pc' := 55) [(.iload 4, 0, 0), (.iload_n 2, 0, 0)] (by decide +kernel) trivial ?_
    show Ev (d + 1) M_Mo_mostWithout 0 0 55 [(2, v0), (0, v1), (0, v2), (0, v3), (0, v4)] [(0, v2), (0, v4)] kd m (zqI kd q)
    refine EvX.icmp_ne (off := 17) (tgt := 72) (by decide +kernel) (by decide) (fun hc => ?_) (fun hc => ?_)
    · have h := h.1 hc
      refine EvX.blk (pc' := 75) [(.iinc 4 1, 0, 0)] (by decide +kernel) trivial ?_
      show Ev (d + 1) M_Mo_mostWithout 0 0 75 [(2, v0), (0, v1), (0, v2), (0, v3), (0, iw (v4 + 1))] [] kd m (zqI kd q)
      refine EvX.goto (off := (-48)) (tgt := 27) (by decide +kernel) (by decide) ?_
      exact h
    · have h := h.2 hc
      exact h
set_option maxRecDepth 20000 in
set_option maxHeartbeats 1000000 in
theorem T_Mo_mostWithout_58 {d : Nat} {kd : ZK} {m : ZM} {q : Int → ZM → Prop} {v0 v1 v2 v3 v4 : Int} (h : (zobj kd v0 8 ∧ (∃ q1, CtI d M_Mo_twoOf [(0, v3), (0, v4)] kd m q1 ∧ ∀ x2 m3, q1 x2 m3 → (zIn kd (m v0 0) 0 (iw (4 + x2)) ∧ (Ev (d + 1) M_Mo_mostWithout 0 0 27 [(2, v0), (0, v1), (0, v2), (0, v3), (0, iw (v4 + 1))] [] kd (zup m3 (m v0 0) (iw (4 + x2)) 0) (zqI kd q)))))) : Ev (d + 1) M_Mo_mostWithout 0 0 58 [(2, v0), (0, v1), (0, v2), (0, v3), (0, v4)] [] kd m (zqI kd q) := by
  obtain ⟨o1, h⟩ := h
  refine EvX.blk (pc' := 66) [(.aload_n 0, 0, 0), (.getfield 9, 8, 0), (.iconst 4, 0, 0), (.iload_n 3, 0, 0), (.iload 4, 0, 0)] (by decide +kernel) ⟨g_Mo_9, trivial⟩ ⟨o1, ?_⟩
  show Ev (d + 1) M_Mo_mostWithout 0 0 66 [(2, v0), (0, v1), (0, v2), (0, v3), (0, v4)] [(0, v4), (0, v3), (0, 4), (2, m v0 0)] kd m (zqI kd q)
  obtain ⟨q1, hq, h⟩ := h
  refine EvX.callS (mc := 0) (ms := 0) (as := [(0, v3), (0, v4)]) (st := [(0, 4), (2, m v0 0)]) (by decide +kernel) l_Mo_60 k_Mo_twoOf s_Mo_twoOf a_Mo_twoOf (by decide) (Nat.le_of_ble_eq_true rfl) hq (fun r kd1 m3 hr => ?_)
  obtain ⟨x2, rfl, hk, hr⟩ := hr
  subst kd1
  have h := h x2 m3 hr
  show Ev (d + 1) M_Mo_mostWithout 0 0 69 [(2, v0), (0, v1), (0, v2), (0, v3), (0, v4)] [(0, x2), (0, 4), (2, m v0 0)] kd m3 (zqI kd q)
  obtain ⟨o1, h⟩ := h
  refine EvX.blk (pc' := 75) [(.iadd, 0, 0), (.iconst 0, 0, 0), (.iastore, 0, 0), (.iinc 4 1, 0, 0)] (by decide +kernel) trivial ⟨o1, ?_⟩
  show Ev (d + 1) M_Mo_mostWithout 0 0 75 [(2, v0), (0, v1), (0, v2), (0, v3), (0, iw (v4 + 1))] [] kd (zup m3 (m v0 0) (iw (4 + x2)) 0) (zqI kd q)
  refine EvX.goto (off := (-48)) (tgt := 27) (by decide +kernel) (by decide) ?_
  exact h
set_option maxRecDepth 20000 in
set_option maxHeartbeats 1000000 in
theorem T_Mo_without_0 {d : Nat} {kd : ZK} {m : ZM} {q : Int → ZM → Prop} {v0 v1 v2 : Int} (h : (∃ q1, CtI d M_Mo_isPlayer [(0, v1)] kd m q1 ∧ ∀ x2 m3, q1 x2 m3 → ((x2 = 0 → q (-1) m3) ∧ (¬ x2 = 0 → (zobj kd v0 8 ∧ ∃ q4, CtI d M_Mo_isQuestion [(2, v0), (0, v1), (0, v2)] kd m3 q4 ∧ ∀ x5 m6, q4 x5 m6 → ((x5 ≠ 0 → ((v1 ≠ 0 → (zobj kd v0 8 ∧ ∃ q7, CtI d M_Mo_mostWithout [(2, v0), (0, (-1)), (0, v2)] kd m6 q7 ∧ ∀ x8 m9, q7 x8 m9 → q x8 m9)) ∧ (¬ v1 ≠ 0 → (zobj kd v0 8 ∧ ∃ q10, CtI d M_Mo_mostWithout [(2, v0), (0, v2), (0, (-1))] kd m6 q10 ∧ ∀ x11 m12, q10 x11 m12 → q x11 m12)))) ∧ (¬ x5 ≠ 0 → q (-1) m6))))))) : Ev (d + 1) M_Mo_without 0 0 0 [(2, v0), (0, v1), (0, v2)] [] kd m (zqI kd q) := by
  refine EvX.blk (pc' := 1) [(.iload_n 1, 0, 0)] (by decide +kernel) trivial ?_
  show Ev (d + 1) M_Mo_without 0 0 1 [(2, v0), (0, v1), (0, v2)] [(0, v1)] kd m (zqI kd q)
  obtain ⟨q1, hq, h⟩ := h
  refine EvX.callS (mc := 0) (ms := 0) (as := [(0, v1)]) (st := []) (by decide +kernel) l_Mo_208 k_Mo_isPlayer s_Mo_isPlayer a_Mo_isPlayer (by decide) (Nat.le_of_ble_eq_true rfl) hq (fun r kd1 m3 hr => ?_)
  obtain ⟨x2, rfl, hk, hr⟩ := hr
  subst kd1
  have h := h x2 m3 hr
  show Ev (d + 1) M_Mo_without 0 0 4 [(2, v0), (0, v1), (0, v2)] [(0, x2)] kd m3 (zqI kd q)
  refine EvX.if_eq (off := 12) (tgt := 16) (by decide +kernel) (by decide) (fun hc => ?_) (fun hc => ?_)
  · have h := h.1 hc
    refine EvX.blk (pc' := 17) [(.iconst (-1), 0, 0)] (by decide +kernel) trivial ?_
    show Ev (d + 1) M_Mo_without 0 0 17 [(2, v0), (0, v1), (0, v2)] [(0, (-1))] kd m3 (zqI kd q)
    exact EvX.ret (r := (0, (-1))) (by decide +kernel) rfl ⟨_, rfl, rfl, h⟩
  · have h := h.2 hc
    refine EvX.blk (pc' := 10) [(.aload_n 0, 0, 0), (.iload_n 1, 0, 0), (.iload_n 2, 0, 0)] (by decide +kernel) trivial ?_
    show Ev (d + 1) M_Mo_without 0 0 10 [(2, v0), (0, v1), (0, v2)] [(0, v2), (0, v1), (2, v0)] kd m3 (zqI kd q)
    obtain ⟨ov, h⟩ := h
    obtain ⟨q4, hq, h⟩ := h
    refine EvX.callV (c := 8) (mc := 0) (ms := 0) (as := [(0, v1), (0, v2)]) (st := []) (by decide +kernel) l_Mo_170 k_Mo_isQuestion v_Mo_isQuestion a_Mo_isQuestion (by decide) (Nat.le_of_ble_eq_true rfl) rfl ov hq (fun r kd1 m6 hr => ?_)
    obtain ⟨x5, rfl, hk, hr⟩ := hr
    subst kd1
    have h := h x5 m6 hr
    show Ev (d + 1) M_Mo_without 0 0 13 [(2, v0), (0, v1), (0, v2)] [(0, x5)] kd m6 (zqI kd q)
    refine EvX.if_ne (off := 5) (tgt := 18) (by decide +kernel) (by decide) (fun hc => ?_) (fun hc => ?_)
    · have h := h.1 hc
      refine EvX.blk (pc' := 19) [(.iload_n 1, 0, 0)] (by decide +kernel) trivial ?_
      show Ev (d + 1) M_Mo_without 0 0 19 [(2, v0), (0, v1), (0, v2)] [(0, v1)] kd m6 (zqI kd q)
      refine EvX.if_ne (off := 12) (tgt := 31) (by decide +kernel) (by decide) (fun hc => ?_) (fun hc => ?_)
      · have h := h.1 hc
        refine EvX.blk (pc' := 34) [(.aload_n 0, 0, 0), (.iconst (-1), 0, 0), (.iload_n 2, 0, 0)] (by decide +kernel) trivial ?_
        show Ev (d + 1) M_Mo_without 0 0 34 [(2, v0), (0, v1), (0, v2)] [(0, v2), (0, (-1)), (2, v0)] kd m6 (zqI kd q)
        obtain ⟨ov, h⟩ := h
        obtain ⟨q7, hq, h⟩ := h
        refine EvX.callV (c := 8) (mc := 0) (ms := 0) (as := [(0, (-1)), (0, v2)]) (st := []) (by decide +kernel) l_Mo_319 k_Mo_mostWithout v_Mo_mostWithout a_Mo_mostWithout (by decide) (Nat.le_of_ble_eq_true rfl) rfl ov hq (fun r kd1 m9 hr => ?_)
        obtain ⟨x8, rfl, hk, hr⟩ := hr
        subst kd1
        have h := h x8 m9 hr
        show Ev (d + 1) M_Mo_without 0 0 37 [(2, v0), (0, v1), (0, v2)] [(0, x8)] kd m9 (zqI kd q)
        exact EvX.ret (r := (0, x8)) (by decide +kernel) rfl ⟨_, rfl, rfl, h⟩
      · have h := h.2 hc
        refine EvX.blk (pc' := 25) [(.aload_n 0, 0, 0), (.iload_n 2, 0, 0), (.iconst (-1), 0, 0)] (by decide +kernel) trivial ?_
        show Ev (d + 1) M_Mo_without 0 0 25 [(2, v0), (0, v1), (0, v2)] [(0, (-1)), (0, v2), (2, v0)] kd m6 (zqI kd q)
        obtain ⟨ov, h⟩ := h
        obtain ⟨q10, hq, h⟩ := h
        refine EvX.callV (c := 8) (mc := 0) (ms := 0) (as := [(0, v2), (0, (-1))]) (st := []) (by decide +kernel) l_Mo_319 k_Mo_mostWithout v_Mo_mostWithout a_Mo_mostWithout (by decide) (Nat.le_of_ble_eq_true rfl) rfl ov hq (fun r kd1 m12 hr => ?_)
        obtain ⟨x11, rfl, hk, hr⟩ := hr
        subst kd1
        have h := h x11 m12 hr
        show Ev (d + 1) M_Mo_without 0 0 28 [(2, v0), (0, v1), (0, v2)] [(0, x11)] kd m12 (zqI kd q)
        refine EvX.goto (off := 9) (tgt := 37) (by decide +kernel) (by decide) ?_
        exact EvX.ret (r := (0, x11)) (by decide +kernel) rfl ⟨_, rfl, rfl, h⟩
    · have h := h.2 hc
      refine EvX.blk (pc' := 17) [(.iconst (-1), 0, 0)] (by decide +kernel) trivial ?_
      show Ev (d + 1) M_Mo_without 0 0 17 [(2, v0), (0, v1), (0, v2)] [(0, (-1))] kd m6 (zqI kd q)
      exact EvX.ret (r := (0, (-1))) (by decide +kernel) rfl ⟨_, rfl, rfl, h⟩
theorem S_Mo_without {d : Nat} {kd : ZK} {m : ZM} {q : Int → ZM → Prop} {v0 v1 v2 : Int} (h : (∃ q1, CtI d M_Mo_isPlayer [(0, v1)] kd m q1 ∧ ∀ x2 m3, q1 x2 m3 → ((x2 = 0 → q (-1) m3) ∧ (¬ x2 = 0 → (zobj kd v0 8 ∧ ∃ q4, CtI d M_Mo_isQuestion [(2, v0), (0, v1), (0, v2)] kd m3 q4 ∧ ∀ x5 m6, q4 x5 m6 → ((x5 ≠ 0 → ((v1 ≠ 0 → (zobj kd v0 8 ∧ ∃ q7, CtI d M_Mo_mostWithout [(2, v0), (0, (-1)), (0, v2)] kd m6 q7 ∧ ∀ x8 m9, q7 x8 m9 → q x8 m9)) ∧ (¬ v1 ≠ 0 → (zobj kd v0 8 ∧ ∃ q10, CtI d M_Mo_mostWithout [(2, v0), (0, v2), (0, (-1))] kd m6 q10 ∧ ∀ x11 m12, q10 x11 m12 → q x11 m12)))) ∧ (¬ x5 ≠ 0 → q (-1) m6))))))) : CtI (d + 1) M_Mo_without [(2, v0), (0, v1), (0, v2)] kd m q :=
  Ct.start k_Mo_without (Nat.le_of_ble_eq_true rfl) ⟨1, Or.inr (Or.inl ⟨rfl, rfl⟩)⟩ (T_Mo_without_0 h)
set_option maxRecDepth 20000 in
set_option maxHeartbeats 1000000 in
theorem T_Mo_cut_0 {d : Nat} {kd : ZK} {m : ZM} {q : Int → ZM → Prop} {v0 v1 v2 : Int} (h : (zobj kd v0 8 ∧ ∃ q1, CtI d M_Mo_areTwo [(2, v0), (0, v1), (0, v2)] kd m q1 ∧ ∀ x2 m3, q1 x2 m3 → ((x2 = 0 → q (-1) m3) ∧ (¬ x2 = 0 → (zobj kd v0 8 ∧ ∃ q4, CtI d M_Mo_mostWithout [(2, v0), (0, v1), (0, v2)] kd m3 q4 ∧ ∀ x5 m6, q4 x5 m6 → q x5 m6))))) : Ev (d + 1) M_Mo_cut 0 0 0 [(2, v0), (0, v1), (0, v2)] [] kd m (zqI kd q) := by
  refine EvX.blk (pc' := 3) [(.aload_n 0, 0, 0), (.iload_n 1, 0, 0), (.iload_n 2, 0, 0)] (by decide +kernel) trivial ?_
  show Ev (d + 1) M_Mo_cut 0 0 3 [(2, v0), (0, v1), (0, v2)] [(0, v2), (0, v1), (2, v0)] kd m (zqI kd q)
  obtain ⟨ov, h⟩ := h
  obtain ⟨q1, hq, h⟩ := h
  refine EvX.callV (c := 8) (mc := 0) (ms := 0) (as := [(0, v1), (0, v2)]) (st := []) (by decide +kernel) l_Mo_174 k_Mo_areTwo v_Mo_areTwo a_Mo_areTwo (by decide) (Nat.le_of_ble_eq_true rfl) rfl ov hq (fun r kd1 m3 hr => ?_)
  obtain ⟨x2, rfl, hk, hr⟩ := hr
  subst kd1
  have h := h x2 m3 hr
  show Ev (d + 1) M_Mo_cut 0 0 6 [(2, v0), (0, v1), (0, v2)] [(0, x2)] kd m3 (zqI kd q)
  refine EvX.if_eq (off := 12) (tgt := 18) (by decide +kernel) (by decide) (fun hc => ?_) (fun hc => ?_)
  · have h := h.1 hc
    refine EvX.blk (pc' := 19) [(.iconst (-1), 0, 0)] (by decide +kernel) trivial ?_
    show Ev (d + 1) M_Mo_cut 0 0 19 [(2, v0), (0, v1), (0, v2)] [(0, (-1))] kd m3 (zqI kd q)
    exact EvX.ret (r := (0, (-1))) (by decide +kernel) rfl ⟨_, rfl, rfl, h⟩
  · have h := h.2 hc
    refine EvX.blk (pc' := 12) [(.aload_n 0, 0, 0), (.iload_n 1, 0, 0), (.iload_n 2, 0, 0)] (by decide +kernel) trivial ?_
    show Ev (d + 1) M_Mo_cut 0 0 12 [(2, v0), (0, v1), (0, v2)] [(0, v2), (0, v1), (2, v0)] kd m3 (zqI kd q)
    obtain ⟨ov, h⟩ := h
    obtain ⟨q4, hq, h⟩ := h
    refine EvX.callV (c := 8) (mc := 0) (ms := 0) (as := [(0, v1), (0, v2)]) (st := []) (by decide +kernel) l_Mo_319 k_Mo_mostWithout v_Mo_mostWithout a_Mo_mostWithout (by decide) (Nat.le_of_ble_eq_true rfl) rfl ov hq (fun r kd1 m6 hr => ?_)
    obtain ⟨x5, rfl, hk, hr⟩ := hr
    subst kd1
    have h := h x5 m6 hr
    show Ev (d + 1) M_Mo_cut 0 0 15 [(2, v0), (0, v1), (0, v2)] [(0, x5)] kd m6 (zqI kd q)
    refine EvX.goto (off := 4) (tgt := 19) (by decide +kernel) (by decide) ?_
    exact EvX.ret (r := (0, x5)) (by decide +kernel) rfl ⟨_, rfl, rfl, h⟩
theorem S_Mo_cut {d : Nat} {kd : ZK} {m : ZM} {q : Int → ZM → Prop} {v0 v1 v2 : Int} (h : (zobj kd v0 8 ∧ ∃ q1, CtI d M_Mo_areTwo [(2, v0), (0, v1), (0, v2)] kd m q1 ∧ ∀ x2 m3, q1 x2 m3 → ((x2 = 0 → q (-1) m3) ∧ (¬ x2 = 0 → (zobj kd v0 8 ∧ ∃ q4, CtI d M_Mo_mostWithout [(2, v0), (0, v1), (0, v2)] kd m3 q4 ∧ ∀ x5 m6, q4 x5 m6 → q x5 m6))))) : CtI (d + 1) M_Mo_cut [(2, v0), (0, v1), (0, v2)] kd m q :=
  Ct.start k_Mo_cut (Nat.le_of_ble_eq_true rfl) ⟨1, Or.inr (Or.inl ⟨rfl, rfl⟩)⟩ (T_Mo_cut_0 h)
set_option maxRecDepth 20000 in
set_option maxHeartbeats 1000000 in
theorem T_Mo_lesser_0 {d : Nat} {kd : ZK} {m : ZM} {q : Int → ZM → Prop} {v0 v1 v2 v3 v4 : Int} (h : (∃ q1, CtI d M_Mo_isPlayer [(0, v1)] kd m q1 ∧ ∀ x2 m3, q1 x2 m3 → ((x2 = 0 → q (-1) m3) ∧ (¬ x2 = 0 → (zobj kd v0 8 ∧ ∃ q4, CtI d M_Mo_isQuestion [(2, v0), (0, v1), (0, v2)] kd m3 q4 ∧ ∀ x5 m6, q4 x5 m6 → ((x5 = 0 → q (-1) m6) ∧ (¬ x5 = 0 → (zobj kd v0 8 ∧ ∃ q7, CtI d M_Mo_isAnswer [(2, v0), (0, v1), (0, v3)] kd m6 q7 ∧ ∀ x8 m9, q7 x8 m9 → ((x8 = 0 → q (-1) m9) ∧ (¬ x8 = 0 → (zobj kd v0 8 ∧ ∃ q10, CtI d M_Mo_isAnswer [(2, v0), (0, v1), (0, v4)] kd m9 q10 ∧ ∀ x11 m12, q10 x11 m12 → ((x11 = 0 → q (-1) m12) ∧ (¬ x11 = 0 → ((v3 ≠ v4 → (Ev (d + 1) M_Mo_lesser 0 0 46 [(2, v0), (0, v1), (0, v2), (0, v3), (0, v4), (0, 0), zJ] [] kd m12 (zqI kd q))) ∧ (¬ v3 ≠ v4 → q (-1) m12))))))))))))))) : Ev (d + 1) M_Mo_lesser 0 0 0 [(2, v0), (0, v1), (0, v2), (0, v3), (0, v4), zJ, zJ] [] kd m (zqI kd q) := by
  refine EvX.blk (pc' := 1) [(.iload_n 1, 0, 0)] (by decide +kernel) trivial ?_
  show Ev (d + 1) M_Mo_lesser 0 0 1 [(2, v0), (0, v1), (0, v2), (0, v3), (0, v4), zJ, zJ] [(0, v1)] kd m (zqI kd q)
  obtain ⟨q1, hq, h⟩ := h
  refine EvX.callS (mc := 0) (ms := 0) (as := [(0, v1)]) (st := []) (by decide +kernel) l_Mo_208 k_Mo_isPlayer s_Mo_isPlayer a_Mo_isPlayer (by decide) (Nat.le_of_ble_eq_true rfl) hq (fun r kd1 m3 hr => ?_)
  obtain ⟨x2, rfl, hk, hr⟩ := hr
  subst kd1
  have h := h x2 m3 hr
  show Ev (d + 1) M_Mo_lesser 0 0 4 [(2, v0), (0, v1), (0, v2), (0, v3), (0, v4), zJ, zJ] [(0, x2)] kd m3 (zqI kd q)
  refine EvX.if_eq (off := 37) (tgt := 41) (by decide +kernel) (by decide) (fun hc => ?_) (fun hc => ?_)
  · have h := h.1 hc
    refine EvX.blk (pc' := 42) [(.iconst (-1), 0, 0)] (by decide +kernel) trivial ?_
    show Ev (d + 1) M_Mo_lesser 0 0 42 [(2, v0), (0, v1), (0, v2), (0, v3), (0, v4), zJ, zJ] [(0, (-1))] kd m3 (zqI kd q)
    exact EvX.ret (r := (0, (-1))) (by decide +kernel) rfl ⟨_, rfl, rfl, h⟩
  · have h := h.2 hc
    refine EvX.blk (pc' := 10) [(.aload_n 0, 0, 0), (.iload_n 1, 0, 0), (.iload_n 2, 0, 0)] (by decide +kernel) trivial ?_
    show Ev (d + 1) M_Mo_lesser 0 0 10 [(2, v0), (0, v1), (0, v2), (0, v3), (0, v4), zJ, zJ] [(0, v2), (0, v1), (2, v0)] kd m3 (zqI kd q)
    obtain ⟨ov, h⟩ := h
    obtain ⟨q4, hq, h⟩ := h
    refine EvX.callV (c := 8) (mc := 0) (ms := 0) (as := [(0, v1), (0, v2)]) (st := []) (by decide +kernel) l_Mo_170 k_Mo_isQuestion v_Mo_isQuestion a_Mo_isQuestion (by decide) (Nat.le_of_ble_eq_true rfl) rfl ov hq (fun r kd1 m6 hr => ?_)
    obtain ⟨x5, rfl, hk, hr⟩ := hr
    subst kd1
    have h := h x5 m6 hr
    show Ev (d + 1) M_Mo_lesser 0 0 13 [(2, v0), (0, v1), (0, v2), (0, v3), (0, v4), zJ, zJ] [(0, x5)] kd m6 (zqI kd q)
    refine EvX.if_eq (off := 28) (tgt := 41) (by decide +kernel) (by decide) (fun hc => ?_) (fun hc => ?_)
    · have h := h.1 hc
      refine EvX.blk (pc' := 42) [(.iconst (-1), 0, 0)] (by decide +kernel) trivial ?_
      show Ev (d + 1) M_Mo_lesser 0 0 42 [(2, v0), (0, v1), (0, v2), (0, v3), (0, v4), zJ, zJ] [(0, (-1))] kd m6 (zqI kd q)
      exact EvX.ret (r := (0, (-1))) (by decide +kernel) rfl ⟨_, rfl, rfl, h⟩
    · have h := h.2 hc
      refine EvX.blk (pc' := 19) [(.aload_n 0, 0, 0), (.iload_n 1, 0, 0), (.iload_n 3, 0, 0)] (by decide +kernel) trivial ?_
      show Ev (d + 1) M_Mo_lesser 0 0 19 [(2, v0), (0, v1), (0, v2), (0, v3), (0, v4), zJ, zJ] [(0, v3), (0, v1), (2, v0)] kd m6 (zqI kd q)
      obtain ⟨ov, h⟩ := h
      obtain ⟨q7, hq, h⟩ := h
      refine EvX.callV (c := 8) (mc := 0) (ms := 0) (as := [(0, v1), (0, v3)]) (st := []) (by decide +kernel) l_Mo_177 k_Mo_isAnswer v_Mo_isAnswer a_Mo_isAnswer (by decide) (Nat.le_of_ble_eq_true rfl) rfl ov hq (fun r kd1 m9 hr => ?_)
      obtain ⟨x8, rfl, hk, hr⟩ := hr
      subst kd1
      have h := h x8 m9 hr
      show Ev (d + 1) M_Mo_lesser 0 0 22 [(2, v0), (0, v1), (0, v2), (0, v3), (0, v4), zJ, zJ] [(0, x8)] kd m9 (zqI kd q)
      refine EvX.if_eq (off := 19) (tgt := 41) (by decide +kernel) (by decide) (fun hc => ?_) (fun hc => ?_)
      · have h := h.1 hc
        refine EvX.blk (pc' := 42) [(.iconst (-1), 0, 0)] (by decide +kernel) trivial ?_
        show Ev (d + 1) M_Mo_lesser 0 0 42 [(2, v0), (0, v1), (0, v2), (0, v3), (0, v4), zJ, zJ] [(0, (-1))] kd m9 (zqI kd q)
        exact EvX.ret (r := (0, (-1))) (by decide +kernel) rfl ⟨_, rfl, rfl, h⟩
      · have h := h.2 hc
        refine EvX.blk (pc' := 29) [(.aload_n 0, 0, 0), (.iload_n 1, 0, 0), (.iload 4, 0, 0)] (by decide +kernel) trivial ?_
        show Ev (d + 1) M_Mo_lesser 0 0 29 [(2, v0), (0, v1), (0, v2), (0, v3), (0, v4), zJ, zJ] [(0, v4), (0, v1), (2, v0)] kd m9 (zqI kd q)
        obtain ⟨ov, h⟩ := h
        obtain ⟨q10, hq, h⟩ := h
        refine EvX.callV (c := 8) (mc := 0) (ms := 0) (as := [(0, v1), (0, v4)]) (st := []) (by decide +kernel) l_Mo_177 k_Mo_isAnswer v_Mo_isAnswer a_Mo_isAnswer (by decide) (Nat.le_of_ble_eq_true rfl) rfl ov hq (fun r kd1 m12 hr => ?_)
        obtain ⟨x11, rfl, hk, hr⟩ := hr
        subst kd1
        have h := h x11 m12 hr
        show Ev (d + 1) M_Mo_lesser 0 0 32 [(2, v0), (0, v1), (0, v2), (0, v3), (0, v4), zJ, zJ] [(0, x11)] kd m12 (zqI kd q)
        refine EvX.if_eq (off := 9) (tgt := 41) (by decide +kernel) (by decide) (fun hc => ?_) (fun hc => ?_)
        · have h := h.1 hc
          refine EvX.blk (pc' := 42) [(.iconst (-1), 0, 0)] (by decide +kernel) trivial ?_
          show Ev (d + 1) M_Mo_lesser 0 0 42 [(2, v0), (0, v1), (0, v2), (0, v3), (0, v4), zJ, zJ] [(0, (-1))] kd m12 (zqI kd q)
          exact EvX.ret (r := (0, (-1))) (by decide +kernel) rfl ⟨_, rfl, rfl, h⟩
        · have h := h.2 hc
          refine EvX.blk (pc' := 38) [(.iload_n 3, 0, 0), (.iload 4, 0, 0)] (by decide +kernel) trivial ?_
          show Ev (d + 1) M_Mo_lesser 0 0 38 [(2, v0), (0, v1), (0, v2), (0, v3), (0, v4), zJ, zJ] [(0, v4), (0, v3)] kd m12 (zqI kd q)
          refine EvX.icmp_ne (off := 5) (tgt := 43) (by decide +kernel) (by decide) (fun hc => ?_) (fun hc => ?_)
          · have h := h.1 hc
            refine EvX.blk (pc' := 46) [(.iconst 0, 0, 0), (.istore 5, 0, 0)] (by decide +kernel) trivial ?_
            show Ev (d + 1) M_Mo_lesser 0 0 46 [(2, v0), (0, v1), (0, v2), (0, v3), (0, v4), (0, 0), zJ] [] kd m12 (zqI kd q)
            exact h
          · have h := h.2 hc
            refine EvX.blk (pc' := 42) [(.iconst (-1), 0, 0)] (by decide +kernel) trivial ?_
            show Ev (d + 1) M_Mo_lesser 0 0 42 [(2, v0), (0, v1), (0, v2), (0, v3), (0, v4), zJ, zJ] [(0, (-1))] kd m12 (zqI kd q)
            exact EvX.ret (r := (0, (-1))) (by decide +kernel) rfl ⟨_, rfl, rfl, h⟩
theorem S_Mo_lesser {d : Nat} {kd : ZK} {m : ZM} {q : Int → ZM → Prop} {v0 v1 v2 v3 v4 : Int} (h : (∃ q1, CtI d M_Mo_isPlayer [(0, v1)] kd m q1 ∧ ∀ x2 m3, q1 x2 m3 → ((x2 = 0 → q (-1) m3) ∧ (¬ x2 = 0 → (zobj kd v0 8 ∧ ∃ q4, CtI d M_Mo_isQuestion [(2, v0), (0, v1), (0, v2)] kd m3 q4 ∧ ∀ x5 m6, q4 x5 m6 → ((x5 = 0 → q (-1) m6) ∧ (¬ x5 = 0 → (zobj kd v0 8 ∧ ∃ q7, CtI d M_Mo_isAnswer [(2, v0), (0, v1), (0, v3)] kd m6 q7 ∧ ∀ x8 m9, q7 x8 m9 → ((x8 = 0 → q (-1) m9) ∧ (¬ x8 = 0 → (zobj kd v0 8 ∧ ∃ q10, CtI d M_Mo_isAnswer [(2, v0), (0, v1), (0, v4)] kd m9 q10 ∧ ∀ x11 m12, q10 x11 m12 → ((x11 = 0 → q (-1) m12) ∧ (¬ x11 = 0 → ((v3 ≠ v4 → (Ev (d + 1) M_Mo_lesser 0 0 46 [(2, v0), (0, v1), (0, v2), (0, v3), (0, v4), (0, 0), zJ] [] kd m12 (zqI kd q))) ∧ (¬ v3 ≠ v4 → q (-1) m12))))))))))))))) : CtI (d + 1) M_Mo_lesser [(2, v0), (0, v1), (0, v2), (0, v3), (0, v4)] kd m q :=
  Ct.start k_Mo_lesser (Nat.le_of_ble_eq_true rfl) ⟨1, Or.inr (Or.inl ⟨rfl, rfl⟩)⟩ (T_Mo_lesser_0 h)
set_option maxRecDepth 20000 in
set_option maxHeartbeats 1000000 in
theorem T_Mo_lesser_46 {d : Nat} {kd : ZK} {m : ZM} {q : Int → ZM → Prop} {v0 v1 v2 v3 v4 v5 : Int} (h : (zobj kd v0 8 ∧ ∃ q1, CtI d M_Mo_questions [(2, v0), (0, iw (1 - v1))] kd m q1 ∧ ∀ x2 m3, q1 x2 m3 → ((x2 ≤ v5 → q 1 m3) ∧ (¬ x2 ≤ v5 → (Ev (d + 1) M_Mo_lesser 0 0 61 [(2, v0), (0, v1), (0, v2), (0, v3), (0, v4), (0, v5), (0, 0)] [] kd m3 (zqI kd q)))))) : Ev (d + 1) M_Mo_lesser 0 0 46 [(2, v0), (0, v1), (0, v2), (0, v3), (0, v4), (0, v5), zJ] [] kd m (zqI kd q) := by
  refine EvX.blk (pc' := 52) [(.iload 5, 0, 0), (.aload_n 0, 0, 0), (.iconst 1, 0, 0), (.iload_n 1, 0, 0), (.isub, 0, 0)] (by decide +kernel) trivial ?_
  show Ev (d + 1) M_Mo_lesser 0 0 52 [(2, v0), (0, v1), (0, v2), (0, v3), (0, v4), (0, v5), zJ] [(0, iw (1 - v1)), (2, v0), (0, v5)] kd m (zqI kd q)
  obtain ⟨ov, h⟩ := h
  obtain ⟨q1, hq, h⟩ := h
  refine EvX.callV (c := 8) (mc := 0) (ms := 0) (as := [(0, iw (1 - v1))]) (st := [(0, v5)]) (by decide +kernel) l_Mo_163 k_Mo_questions v_Mo_questions a_Mo_questions (by decide) (Nat.le_of_ble_eq_true rfl) rfl ov hq (fun r kd1 m3 hr => ?_)
  obtain ⟨x2, rfl, hk, hr⟩ := hr
  subst kd1
  have h := h x2 m3 hr
  show Ev (d + 1) M_Mo_lesser 0 0 55 [(2, v0), (0, v1), (0, v2), (0, v3), (0, v4), (0, v5), zJ] [(0, x2), (0, v5)] kd m3 (zqI kd q)
  refine EvX.icmp_ge (off := 73) (tgt := 128) (by decide +kernel) (by decide) (fun hc => ?_) (fun hc => ?_)
  · have h := h.1 hc
    refine EvX.blk (pc' := 129) [(.iconst 1, 0, 0)] (by decide +kernel) trivial ?_
    show Ev (d + 1) M_Mo_lesser 0 0 129 [(2, v0), (0, v1), (0, v2), (0, v3), (0, v4), (0, v5), zJ] [(0, 1)] kd m3 (zqI kd q)
    exact EvX.ret (r := (0, 1)) (by decide +kernel) rfl ⟨_, rfl, rfl, h⟩
  · have h := h.2 hc
    refine EvX.blk (pc' := 61) [(.iconst 0, 0, 0), (.istore 6, 0, 0)] (by decide +kernel) trivial ?_
    show Ev (d + 1) M_Mo_lesser 0 0 61 [(2, v0), (0, v1), (0, v2), (0, v3), (0, v4), (0, v5), (0, 0)] [] kd m3 (zqI kd q)
    exact h
set_option maxRecDepth 20000 in
set_option maxHeartbeats 1000000 in
theorem T_Mo_lesser_61 {d : Nat} {kd : ZK} {m : ZM} {q : Int → ZM → Prop} {v0 v1 v2 v3 v4 v5 v6 : Int} (h : (zobj kd v0 8 ∧ ∃ q1, CtI d M_Mo_answers [(2, v0), (0, iw (1 - v1))] kd m q1 ∧ ∀ x2 m3, q1 x2 m3 → ((x2 ≤ v6 → (Ev (d + 1) M_Mo_lesser 0 0 46 [(2, v0), (0, v1), (0, v2), (0, v3), (0, v4), (0, iw (v5 + 1)), zJ] [] kd m3 (zqI kd q))) ∧ (¬ x2 ≤ v6 → (zobj kd v0 8 ∧ ∃ q4, CtI d M_Mo_weightSeen [(2, v0), (0, v1), (0, v2), (0, v5)] kd m3 q4 ∧ ∀ x5 m6, q4 x5 m6 → ((x5 ≤ 0 → (Ev (d + 1) M_Mo_lesser 0 0 46 [(2, v0), (0, v1), (0, v2), (0, v3), (0, v4), (0, iw (v5 + 1)), zJ] [] kd m6 (zqI kd q))) ∧ (¬ x5 ≤ 0 → (zobj kd v0 8 ∧ ∃ q7, CtI d M_Mo_seen [(2, v0), (0, v1), (0, 29), (0, v2), (0, v5), (0, v3), (0, v6)] kd m6 q7 ∧ ∀ x8 m9, q7 x8 m9 → (zobj kd v0 8 ∧ ∃ q10, CtI d M_Mo_seen [(2, v0), (0, v1), (0, 29), (0, v2), (0, v5), (0, v4), (0, v6)] kd m9 q10 ∧ ∀ x11 m12, q10 x11 m12 → ((x8 ≤ x11 → (Ev (d + 1) M_Mo_lesser 0 0 61 [(2, v0), (0, v1), (0, v2), (0, v3), (0, v4), (0, v5), (0, iw (v6 + 1))] [] kd m12 (zqI kd q))) ∧ (¬ x8 ≤ x11 → q 0 m12))))))))))) : Ev (d + 1) M_Mo_lesser 0 0 61 [(2, v0), (0, v1), (0, v2), (0, v3), (0, v4), (0, v5), (0, v6)] [] kd m (zqI kd q) := by
  refine EvX.blk (pc' := 67) [(.iload 6, 0, 0), (.aload_n 0, 0, 0), (.iconst 1, 0, 0), (.iload_n 1, 0, 0), (.isub, 0, 0)] (by decide +kernel) trivial ?_
  show Ev (d + 1) M_Mo_lesser 0 0 67 [(2, v0), (0, v1), (0, v2), (0, v3), (0, v4), (0, v5), (0, v6)] [(0, iw (1 - v1)), (2, v0), (0, v6)] kd m (zqI kd q)
  obtain ⟨ov, h⟩ := h
  obtain ⟨q1, hq, h⟩ := h
  refine EvX.callV (c := 8) (mc := 0) (ms := 0) (as := [(0, iw (1 - v1))]) (st := [(0, v6)]) (by decide +kernel) l_Mo_167 k_Mo_answers v_Mo_answers a_Mo_answers (by decide) (Nat.le_of_ble_eq_true rfl) rfl ov hq (fun r kd1 m3 hr => ?_)
  obtain ⟨x2, rfl, hk, hr⟩ := hr
  subst kd1
  have h := h x2 m3 hr
  show Ev (d + 1) M_Mo_lesser 0 0 70 [(2, v0), (0, v1), (0, v2), (0, v3), (0, v4), (0, v5), (0, v6)] [(0, x2), (0, v6)] kd m3 (zqI kd q)
  refine EvX.icmp_ge (off := 52) (tgt := 122) (by decide +kernel) (by decide) (fun hc => ?_) (fun hc => ?_)
  · have h := h.1 hc
    refine EvX.blk (pc' := 125) [(.iinc 5 1, 0, 0)] (by decide +kernel) trivial ?_
    show Ev (d + 1) M_Mo_lesser 0 0 125 [(2, v0), (0, v1), (0, v2), (0, v3), (0, v4), (0, iw (v5 + 1)), (0, v6)] [] kd m3 (zqI kd q)
    refine EvX.goto (off := (-79)) (tgt := 46) (by decide +kernel) (by decide) ?_
    exact EvX.weak (ls2 := [(2, v0), (0, v1), (0, v2), (0, v3), (0, v4), (0, iw (v5 + 1)), zJ]) (zwk_of ⟨Or.inr rfl, Or.inr rfl, Or.inr rfl, Or.inr rfl, Or.inr rfl, Or.inr rfl, Or.inl rfl, trivial⟩) h
  · have h := h.2 hc
    refine EvX.blk (pc' := 78) [(.aload_n 0, 0, 0), (.iload_n 1, 0, 0), (.iload_n 2, 0, 0), (.iload 5, 0, 0)] (by decide +kernel) trivial ?_
    show Ev (d + 1) M_Mo_lesser 0 0 78 [(2, v0), (0, v1), (0, v2), (0, v3), (0, v4), (0, v5), (0, v6)] [(0, v5), (0, v2), (0, v1), (2, v0)] kd m3 (zqI kd q)
    obtain ⟨ov, h⟩ := h
    obtain ⟨q4, hq, h⟩ := h
    refine EvX.callV (c := 8) (mc := 0) (ms := 0) (as := [(0, v1), (0, v2), (0, v5)]) (st := []) (by decide +kernel) l_Mo_249 k_Mo_weightSeen v_Mo_weightSeen a_Mo_weightSeen (by decide) (Nat.le_of_ble_eq_true rfl) rfl ov hq (fun r kd1 m6 hr => ?_)
    obtain ⟨x5, rfl, hk, hr⟩ := hr
    subst kd1
    have h := h x5 m6 hr
    show Ev (d + 1) M_Mo_lesser 0 0 81 [(2, v0), (0, v1), (0, v2), (0, v3), (0, v4), (0, v5), (0, v6)] [(0, x5)] kd m6 (zqI kd q)
    refine EvX.if_le (off := 41) (tgt := 122) (by decide +kernel) (by decide) (fun hc => ?_) (fun hc => ?_)
    · have h := h.1 hc
      refine EvX.blk (pc' := 125) [(.iinc 5 1, 0, 0)] (by decide +kernel) trivial ?_
      show Ev (d + 1) M_Mo_lesser 0 0 125 [(2, v0), (0, v1), (0, v2), (0, v3), (0, v4), (0, iw (v5 + 1)), (0, v6)] [] kd m6 (zqI kd q)
      refine EvX.goto (off := (-79)) (tgt := 46) (by decide +kernel) (by decide) ?_
      exact EvX.weak (ls2 := [(2, v0), (0, v1), (0, v2), (0, v3), (0, v4), (0, iw (v5 + 1)), zJ]) (zwk_of ⟨Or.inr rfl, Or.inr rfl, Or.inr rfl, Or.inr rfl, Or.inr rfl, Or.inr rfl, Or.inl rfl, trivial⟩) h
    · have h := h.2 hc
      refine EvX.blk (pc' := 94) [(.aload_n 0, 0, 0), (.iload_n 1, 0, 0), (.bipush 29, 0, 0), (.iload_n 2, 0, 0), (.iload 5, 0, 0), (.iload_n 3, 0, 0), (.iload 6, 0, 0)] (by decide +kernel) trivial ?_
      show Ev (d + 1) M_Mo_lesser 0 0 94 [(2, v0), (0, v1), (0, v2), (0, v3), (0, v4), (0, v5), (0, v6)] [(0, v6), (0, v3), (0, v5), (0, v2), (0, 29), (0, v1), (2, v0)] kd m6 (zqI kd q)
      obtain ⟨ov, h⟩ := h
      obtain ⟨q7, hq, h⟩ := h
      refine EvX.callV (c := 8) (mc := 0) (ms := 0) (as := [(0, v1), (0, 29), (0, v2), (0, v5), (0, v3), (0, v6)]) (st := []) (by decide +kernel) l_Mo_245 k_Mo_seen v_Mo_seen a_Mo_seen (by decide) (Nat.le_of_ble_eq_true rfl) rfl ov hq (fun r kd1 m9 hr => ?_)
      obtain ⟨x8, rfl, hk, hr⟩ := hr
      subst kd1
      have h := h x8 m9 hr
      show Ev (d + 1) M_Mo_lesser 0 0 97 [(2, v0), (0, v1), (0, v2), (0, v3), (0, v4), (0, v5), (0, v6)] [(0, x8)] kd m9 (zqI kd q)
      refine EvX.blk (pc' := 108) [(.aload_n 0, 0, 0), (.iload_n 1, 0, 0), (.bipush 29, 0, 0), (.iload_n 2, 0, 0), (.iload 5, 0, 0), (.iload 4, 0, 0), (.iload 6, 0, 0)] (by decide +kernel) trivial ?_
      show Ev (d + 1) M_Mo_lesser 0 0 108 [(2, v0), (0, v1), (0, v2), (0, v3), (0, v4), (0, v5), (0, v6)] [(0, v6), (0, v4), (0, v5), (0, v2), (0, 29), (0, v1), (2, v0), (0, x8)] kd m9 (zqI kd q)
      obtain ⟨ov, h⟩ := h
      obtain ⟨q10, hq, h⟩ := h
      refine EvX.callV (c := 8) (mc := 0) (ms := 0) (as := [(0, v1), (0, 29), (0, v2), (0, v5), (0, v4), (0, v6)]) (st := [(0, x8)]) (by decide +kernel) l_Mo_245 k_Mo_seen v_Mo_seen a_Mo_seen (by decide) (Nat.le_of_ble_eq_true rfl) rfl ov hq (fun r kd1 m12 hr => ?_)
      obtain ⟨x11, rfl, hk, hr⟩ := hr
      subst kd1
      have h := h x11 m12 hr
      show Ev (d + 1) M_Mo_lesser 0 0 111 [(2, v0), (0, v1), (0, v2), (0, v3), (0, v4), (0, v5), (0, v6)] [(0, x11), (0, x8)] kd m12 (zqI kd q)
      refine EvX.icmp_le (off := 5) (tgt := 116) (by decide +kernel) (by decide) (fun hc => ?_) (fun hc => ?_)
      · have h := h.1 hc
        refine EvX.blk (pc' := 119) [(.iinc 6 1, 0, 0)] (by decide +kernel) trivial ?_
        show Ev (d + 1) M_Mo_lesser 0 0 119 [(2, v0), (0, v1), (0, v2), (0, v3), (0, v4), (0, v5), (0, iw (v6 + 1))] [] kd m12 (zqI kd q)
        refine EvX.goto (off := (-58)) (tgt := 61) (by decide +kernel) (by decide) ?_
        exact h
      · have h := h.2 hc
        refine EvX.blk (pc' := 115) [(.iconst 0, 0, 0)] (by decide +kernel) trivial ?_
        show Ev (d + 1) M_Mo_lesser 0 0 115 [(2, v0), (0, v1), (0, v2), (0, v3), (0, v4), (0, v5), (0, v6)] [(0, 0)] kd m12 (zqI kd q)
        exact EvX.ret (r := (0, 0)) (by decide +kernel) rfl ⟨_, rfl, rfl, h⟩
set_option maxRecDepth 20000 in
set_option maxHeartbeats 1000000 in
theorem T_Mo_same_0 {d : Nat} {kd : ZK} {m : ZM} {q : Int → ZM → Prop} {v0 v1 v2 v3 : Int} (h : (∃ q1, CtI d M_Mo_isPlayer [(0, v1)] kd m q1 ∧ ∀ x2 m3, q1 x2 m3 → ((x2 = 0 → q (-1) m3) ∧ (¬ x2 = 0 → (zobj kd v0 8 ∧ ∃ q4, CtI d M_Mo_isQuestion [(2, v0), (0, v1), (0, v2)] kd m3 q4 ∧ ∀ x5 m6, q4 x5 m6 → ((x5 = 0 → q (-1) m6) ∧ (¬ x5 = 0 → (zobj kd v0 8 ∧ ∃ q7, CtI d M_Mo_isQuestion [(2, v0), (0, v1), (0, v3)] kd m6 q7 ∧ ∀ x8 m9, q7 x8 m9 → ((x8 = 0 → q (-1) m9) ∧ (¬ x8 = 0 → ((v2 ≠ v3 → (Ev (d + 1) M_Mo_same 0 0 38 [(2, v0), (0, v1), (0, v2), (0, v3), (0, 1), (0, 0), zJ, zJ] [] kd m9 (zqI kd q))) ∧ (¬ v2 ≠ v3 → q (-1) m9)))))))))))) : Ev (d + 1) M_Mo_same 0 0 0 [(2, v0), (0, v1), (0, v2), (0, v3), zJ, zJ, zJ, zJ] [] kd m (zqI kd q) := by
  refine EvX.blk (pc' := 1) [(.iload_n 1, 0, 0)] (by decide +kernel) trivial ?_
  show Ev (d + 1) M_Mo_same 0 0 1 [(2, v0), (0, v1), (0, v2), (0, v3), zJ, zJ, zJ, zJ] [(0, v1)] kd m (zqI kd q)
  obtain ⟨q1, hq, h⟩ := h
  refine EvX.callS (mc := 0) (ms := 0) (as := [(0, v1)]) (st := []) (by decide +kernel) l_Mo_208 k_Mo_isPlayer s_Mo_isPlayer a_Mo_isPlayer (by decide) (Nat.le_of_ble_eq_true rfl) hq (fun r kd1 m3 hr => ?_)
  obtain ⟨x2, rfl, hk, hr⟩ := hr
  subst kd1
  have h := h x2 m3 hr
  show Ev (d + 1) M_Mo_same 0 0 4 [(2, v0), (0, v1), (0, v2), (0, v3), zJ, zJ, zJ, zJ] [(0, x2)] kd m3 (zqI kd q)
  refine EvX.if_eq (off := 26) (tgt := 30) (by decide +kernel) (by decide) (fun hc => ?_) (fun hc => ?_)
  · have h := h.1 hc
    refine EvX.blk (pc' := 31) [(.iconst (-1), 0, 0)] (by decide +kernel) trivial ?_
    show Ev (d + 1) M_Mo_same 0 0 31 [(2, v0), (0, v1), (0, v2), (0, v3), zJ, zJ, zJ, zJ] [(0, (-1))] kd m3 (zqI kd q)
    exact EvX.ret (r := (0, (-1))) (by decide +kernel) rfl ⟨_, rfl, rfl, h⟩
  · have h := h.2 hc
    refine EvX.blk (pc' := 10) [(.aload_n 0, 0, 0), (.iload_n 1, 0, 0), (.iload_n 2, 0, 0)] (by decide +kernel) trivial ?_
    show Ev (d + 1) M_Mo_same 0 0 10 [(2, v0), (0, v1), (0, v2), (0, v3), zJ, zJ, zJ, zJ] [(0, v2), (0, v1), (2, v0)] kd m3 (zqI kd q)
    obtain ⟨ov, h⟩ := h
    obtain ⟨q4, hq, h⟩ := h
    refine EvX.callV (c := 8) (mc := 0) (ms := 0) (as := [(0, v1), (0, v2)]) (st := []) (by decide +kernel) l_Mo_170 k_Mo_isQuestion v_Mo_isQuestion a_Mo_isQuestion (by decide) (Nat.le_of_ble_eq_true rfl) rfl ov hq (fun r kd1 m6 hr => ?_)
    obtain ⟨x5, rfl, hk, hr⟩ := hr
    subst kd1
    have h := h x5 m6 hr
    show Ev (d + 1) M_Mo_same 0 0 13 [(2, v0), (0, v1), (0, v2), (0, v3), zJ, zJ, zJ, zJ] [(0, x5)] kd m6 (zqI kd q)
    refine EvX.if_eq (off := 17) (tgt := 30) (by decide +kernel) (by decide) (fun hc => ?_) (fun hc => ?_)
    · have h := h.1 hc
      refine EvX.blk (pc' := 31) [(.iconst (-1), 0, 0)] (by decide +kernel) trivial ?_
      show Ev (d + 1) M_Mo_same 0 0 31 [(2, v0), (0, v1), (0, v2), (0, v3), zJ, zJ, zJ, zJ] [(0, (-1))] kd m6 (zqI kd q)
      exact EvX.ret (r := (0, (-1))) (by decide +kernel) rfl ⟨_, rfl, rfl, h⟩
    · have h := h.2 hc
      refine EvX.blk (pc' := 19) [(.aload_n 0, 0, 0), (.iload_n 1, 0, 0), (.iload_n 3, 0, 0)] (by decide +kernel) trivial ?_
      show Ev (d + 1) M_Mo_same 0 0 19 [(2, v0), (0, v1), (0, v2), (0, v3), zJ, zJ, zJ, zJ] [(0, v3), (0, v1), (2, v0)] kd m6 (zqI kd q)
      obtain ⟨ov, h⟩ := h
      obtain ⟨q7, hq, h⟩ := h
      refine EvX.callV (c := 8) (mc := 0) (ms := 0) (as := [(0, v1), (0, v3)]) (st := []) (by decide +kernel) l_Mo_170 k_Mo_isQuestion v_Mo_isQuestion a_Mo_isQuestion (by decide) (Nat.le_of_ble_eq_true rfl) rfl ov hq (fun r kd1 m9 hr => ?_)
      obtain ⟨x8, rfl, hk, hr⟩ := hr
      subst kd1
      have h := h x8 m9 hr
      show Ev (d + 1) M_Mo_same 0 0 22 [(2, v0), (0, v1), (0, v2), (0, v3), zJ, zJ, zJ, zJ] [(0, x8)] kd m9 (zqI kd q)
      refine EvX.if_eq (off := 8) (tgt := 30) (by decide +kernel) (by decide) (fun hc => ?_) (fun hc => ?_)
      · have h := h.1 hc
        refine EvX.blk (pc' := 31) [(.iconst (-1), 0, 0)] (by decide +kernel) trivial ?_
        show Ev (d + 1) M_Mo_same 0 0 31 [(2, v0), (0, v1), (0, v2), (0, v3), zJ, zJ, zJ, zJ] [(0, (-1))] kd m9 (zqI kd q)
        exact EvX.ret (r := (0, (-1))) (by decide +kernel) rfl ⟨_, rfl, rfl, h⟩
      · have h := h.2 hc
        refine EvX.blk (pc' := 27) [(.iload_n 2, 0, 0), (.iload_n 3, 0, 0)] (by decide +kernel) trivial ?_
        show Ev (d + 1) M_Mo_same 0 0 27 [(2, v0), (0, v1), (0, v2), (0, v3), zJ, zJ, zJ, zJ] [(0, v3), (0, v2)] kd m9 (zqI kd q)
        refine EvX.icmp_ne (off := 5) (tgt := 32) (by decide +kernel) (by decide) (fun hc => ?_) (fun hc => ?_)
        · have h := h.1 hc
          refine EvX.blk (pc' := 38) [(.iconst 1, 0, 0), (.istore 4, 0, 0), (.iconst 0, 0, 0), (.istore 5, 0, 0)] (by decide +kernel) trivial ?_
          show Ev (d + 1) M_Mo_same 0 0 38 [(2, v0), (0, v1), (0, v2), (0, v3), (0, 1), (0, 0), zJ, zJ] [] kd m9 (zqI kd q)
          exact h
        · have h := h.2 hc
          refine EvX.blk (pc' := 31) [(.iconst (-1), 0, 0)] (by decide +kernel) trivial ?_
          show Ev (d + 1) M_Mo_same 0 0 31 [(2, v0), (0, v1), (0, v2), (0, v3), zJ, zJ, zJ, zJ] [(0, (-1))] kd m9 (zqI kd q)
          exact EvX.ret (r := (0, (-1))) (by decide +kernel) rfl ⟨_, rfl, rfl, h⟩
theorem S_Mo_same {d : Nat} {kd : ZK} {m : ZM} {q : Int → ZM → Prop} {v0 v1 v2 v3 : Int} (h : (∃ q1, CtI d M_Mo_isPlayer [(0, v1)] kd m q1 ∧ ∀ x2 m3, q1 x2 m3 → ((x2 = 0 → q (-1) m3) ∧ (¬ x2 = 0 → (zobj kd v0 8 ∧ ∃ q4, CtI d M_Mo_isQuestion [(2, v0), (0, v1), (0, v2)] kd m3 q4 ∧ ∀ x5 m6, q4 x5 m6 → ((x5 = 0 → q (-1) m6) ∧ (¬ x5 = 0 → (zobj kd v0 8 ∧ ∃ q7, CtI d M_Mo_isQuestion [(2, v0), (0, v1), (0, v3)] kd m6 q7 ∧ ∀ x8 m9, q7 x8 m9 → ((x8 = 0 → q (-1) m9) ∧ (¬ x8 = 0 → ((v2 ≠ v3 → (Ev (d + 1) M_Mo_same 0 0 38 [(2, v0), (0, v1), (0, v2), (0, v3), (0, 1), (0, 0), zJ, zJ] [] kd m9 (zqI kd q))) ∧ (¬ v2 ≠ v3 → q (-1) m9)))))))))))) : CtI (d + 1) M_Mo_same [(2, v0), (0, v1), (0, v2), (0, v3)] kd m q :=
  Ct.start k_Mo_same (Nat.le_of_ble_eq_true rfl) ⟨1, Or.inr (Or.inl ⟨rfl, rfl⟩)⟩ (T_Mo_same_0 h)
set_option maxRecDepth 20000 in
set_option maxHeartbeats 1000000 in
theorem T_Mo_same_38 {d : Nat} {kd : ZK} {m : ZM} {q : Int → ZM → Prop} {v0 v1 v2 v3 v4 v5 : Int} (h : (zobj kd v0 8 ∧ ∃ q1, CtI d M_Mo_questions [(2, v0), (0, iw (1 - v1))] kd m q1 ∧ ∀ x2 m3, q1 x2 m3 → ((x2 ≤ v5 → (∃ q4, CtI d M_Mo_truth [(0, v4)] kd m3 q4 ∧ ∀ x5 m6, q4 x5 m6 → q x5 m6)) ∧ (¬ x2 ≤ v5 → ((v4 = 0 → (Ev (d + 1) M_Mo_same 0 0 84 [(2, v0), (0, v1), (0, v2), (0, v3), (0, 0), (0, v5), (0, 0), zJ] [] kd m3 (zqI kd q))) ∧ (¬ v4 = 0 → (zobj kd v0 8 ∧ ∃ q7, CtI d M_Mo_weightSeen [(2, v0), (0, v1), (0, v2), (0, v5)] kd m3 q7 ∧ ∀ x8 m9, q7 x8 m9 → (zobj kd v0 8 ∧ ∃ q10, CtI d M_Mo_weightSeen [(2, v0), (0, v1), (0, v3), (0, v5)] kd m9 q10 ∧ ∀ x11 m12, q10 x11 m12 → ((x8 ≠ x11 → (Ev (d + 1) M_Mo_same 0 0 84 [(2, v0), (0, v1), (0, v2), (0, v3), (0, 0), (0, v5), (0, 0), zJ] [] kd m12 (zqI kd q))) ∧ (¬ x8 ≠ x11 → (Ev (d + 1) M_Mo_same 0 0 84 [(2, v0), (0, v1), (0, v2), (0, v3), (0, 1), (0, v5), (0, 0), zJ] [] kd m12 (zqI kd q)))))))))))) : Ev (d + 1) M_Mo_same 0 0 38 [(2, v0), (0, v1), (0, v2), (0, v3), (0, v4), (0, v5), zJ, zJ] [] kd m (zqI kd q) := by
  refine EvX.blk (pc' := 44) [(.iload 5, 0, 0), (.aload_n 0, 0, 0), (.iconst 1, 0, 0), (.iload_n 1, 0, 0), (.isub, 0, 0)] (by decide +kernel) trivial ?_
  show Ev (d + 1) M_Mo_same 0 0 44 [(2, v0), (0, v1), (0, v2), (0, v3), (0, v4), (0, v5), zJ, zJ] [(0, iw (1 - v1)), (2, v0), (0, v5)] kd m (zqI kd q)
  obtain ⟨ov, h⟩ := h
  obtain ⟨q1, hq, h⟩ := h
  refine EvX.callV (c := 8) (mc := 0) (ms := 0) (as := [(0, iw (1 - v1))]) (st := [(0, v5)]) (by decide +kernel) l_Mo_163 k_Mo_questions v_Mo_questions a_Mo_questions (by decide) (Nat.le_of_ble_eq_true rfl) rfl ov hq (fun r kd1 m3 hr => ?_)
  obtain ⟨x2, rfl, hk, hr⟩ := hr
  subst kd1
  have h := h x2 m3 hr
  show Ev (d + 1) M_Mo_same 0 0 47 [(2, v0), (0, v1), (0, v2), (0, v3), (0, v4), (0, v5), zJ, zJ] [(0, x2), (0, v5)] kd m3 (zqI kd q)
  refine EvX.icmp_ge (off := 168) (tgt := 215) (by decide +kernel) (by decide) (fun hc => ?_) (fun hc => ?_)
  · have h := h.1 hc
    refine EvX.blk (pc' := 217) [(.iload 4, 0, 0)] (by decide +kernel) trivial ?_
    show Ev (d + 1) M_Mo_same 0 0 217 [(2, v0), (0, v1), (0, v2), (0, v3), (0, v4), (0, v5), zJ, zJ] [(0, v4)] kd m3 (zqI kd q)
    obtain ⟨q4, hq, h⟩ := h
    refine EvX.callS (mc := 0) (ms := 0) (as := [(0, v4)]) (st := []) (by decide +kernel) l_Mo_204 k_Mo_truth s_Mo_truth a_Mo_truth (by decide) (Nat.le_of_ble_eq_true rfl) hq (fun r kd1 m6 hr => ?_)
    obtain ⟨x5, rfl, hk, hr⟩ := hr
    subst kd1
    have h := h x5 m6 hr
    show Ev (d + 1) M_Mo_same 0 0 220 [(2, v0), (0, v1), (0, v2), (0, v3), (0, v4), (0, v5), zJ, zJ] [(0, x5)] kd m6 (zqI kd q)
    exact EvX.ret (r := (0, x5)) (by decide +kernel) rfl ⟨_, rfl, rfl, h⟩
  · have h := h.2 hc
    refine EvX.blk (pc' := 52) [(.iload 4, 0, 0)] (by decide +kernel) trivial ?_
    show Ev (d + 1) M_Mo_same 0 0 52 [(2, v0), (0, v1), (0, v2), (0, v3), (0, v4), (0, v5), zJ, zJ] [(0, v4)] kd m3 (zqI kd q)
    refine EvX.if_eq (off := 26) (tgt := 78) (by decide +kernel) (by decide) (fun hc => ?_) (fun hc => ?_)
    · have h := h.1 hc
      refine EvX.blk (pc' := 84) [(.iconst 0, 0, 0), (.istore 4, 0, 0), (.iconst 0, 0, 0), (.istore 6, 0, 0)] (by decide +kernel) trivial ?_
      show Ev (d + 1) M_Mo_same 0 0 84 [(2, v0), (0, v1), (0, v2), (0, v3), (0, 0), (0, v5), (0, 0), zJ] [] kd m3 (zqI kd q)
      exact h
    · have h := h.2 hc
      refine EvX.blk (pc' := 60) [(.aload_n 0, 0, 0), (.iload_n 1, 0, 0), (.iload_n 2, 0, 0), (.iload 5, 0, 0)] (by decide +kernel) trivial ?_
      show Ev (d + 1) M_Mo_same 0 0 60 [(2, v0), (0, v1), (0, v2), (0, v3), (0, v4), (0, v5), zJ, zJ] [(0, v5), (0, v2), (0, v1), (2, v0)] kd m3 (zqI kd q)
      obtain ⟨ov, h⟩ := h
      obtain ⟨q7, hq, h⟩ := h
      refine EvX.callV (c := 8) (mc := 0) (ms := 0) (as := [(0, v1), (0, v2), (0, v5)]) (st := []) (by decide +kernel) l_Mo_249 k_Mo_weightSeen v_Mo_weightSeen a_Mo_weightSeen (by decide) (Nat.le_of_ble_eq_true rfl) rfl ov hq (fun r kd1 m9 hr => ?_)
      obtain ⟨x8, rfl, hk, hr⟩ := hr
      subst kd1
      have h := h x8 m9 hr
      show Ev (d + 1) M_Mo_same 0 0 63 [(2, v0), (0, v1), (0, v2), (0, v3), (0, v4), (0, v5), zJ, zJ] [(0, x8)] kd m9 (zqI kd q)
      refine EvX.blk (pc' := 68) [(.aload_n 0, 0, 0), (.iload_n 1, 0, 0), (.iload_n 3, 0, 0), (.iload 5, 0, 0)] (by decide +kernel) trivial ?_
      show Ev (d + 1) M_Mo_same 0 0 68 [(2, v0), (0, v1), (0, v2), (0, v3), (0, v4), (0, v5), zJ, zJ] [(0, v5), (0, v3), (0, v1), (2, v0), (0, x8)] kd m9 (zqI kd q)
      obtain ⟨ov, h⟩ := h
      obtain ⟨q10, hq, h⟩ := h
      refine EvX.callV (c := 8) (mc := 0) (ms := 0) (as := [(0, v1), (0, v3), (0, v5)]) (st := [(0, x8)]) (by decide +kernel) l_Mo_249 k_Mo_weightSeen v_Mo_weightSeen a_Mo_weightSeen (by decide) (Nat.le_of_ble_eq_true rfl) rfl ov hq (fun r kd1 m12 hr => ?_)
      obtain ⟨x11, rfl, hk, hr⟩ := hr
      subst kd1
      have h := h x11 m12 hr
      show Ev (d + 1) M_Mo_same 0 0 71 [(2, v0), (0, v1), (0, v2), (0, v3), (0, v4), (0, v5), zJ, zJ] [(0, x11), (0, x8)] kd m12 (zqI kd q)
      refine EvX.icmp_ne (off := 7) (tgt := 78) (by decide +kernel) (by decide) (fun hc => ?_) (fun hc => ?_)
      · have h := h.1 hc
        refine EvX.blk (pc' := 84) [(.iconst 0, 0, 0), (.istore 4, 0, 0), (.iconst 0, 0, 0), (.istore 6, 0, 0)] (by decide +kernel) trivial ?_
        show Ev (d + 1) M_Mo_same 0 0 84 [(2, v0), (0, v1), (0, v2), (0, v3), (0, 0), (0, v5), (0, 0), zJ] [] kd m12 (zqI kd q)
        exact h
      · have h := h.2 hc
        refine EvX.blk (pc' := 75) [(.iconst 1, 0, 0)] (by decide +kernel) trivial ?_
        show Ev (d + 1) M_Mo_same 0 0 75 [(2, v0), (0, v1), (0, v2), (0, v3), (0, v4), (0, v5), zJ, zJ] [(0, 1)] kd m12 (zqI kd q)
        refine EvX.goto (off := 4) (tgt := 79) (by decide +kernel) (by decide) ?_
        refine EvX.blk (pc' := 84) [(.istore 4, 0, 0), (.iconst 0, 0, 0), (.istore 6, 0, 0)] (by decide +kernel) trivial ?_
        show Ev (d + 1) M_Mo_same 0 0 84 [(2, v0), (0, v1), (0, v2), (0, v3), (0, 1), (0, v5), (0, 0), zJ] [] kd m12 (zqI kd q)
        exact h
set_option maxRecDepth 20000 in
set_option maxHeartbeats 1000000 in
theorem T_Mo_same_84 {d : Nat} {kd : ZK} {m : ZM} {q : Int → ZM → Prop} {v0 v1 v2 v3 v4 v5 v6 : Int} (h : (zobj kd v0 8 ∧ ∃ q1, CtI d M_Mo_answers [(2, v0), (0, v1)] kd m q1 ∧ ∀ x2 m3, q1 x2 m3 → ((x2 ≤ v6 → (Ev (d + 1) M_Mo_same 0 0 38 [(2, v0), (0, v1), (0, v2), (0, v3), (0, v4), (0, iw (v5 + 1)), zJ, zJ] [] kd m3 (zqI kd q))) ∧ (¬ x2 ≤ v6 → (Ev (d + 1) M_Mo_same 0 0 97 [(2, v0), (0, v1), (0, v2), (0, v3), (0, v4), (0, v5), (0, v6), (0, 0)] [] kd m3 (zqI kd q)))))) : Ev (d + 1) M_Mo_same 0 0 84 [(2, v0), (0, v1), (0, v2), (0, v3), (0, v4), (0, v5), (0, v6), zJ] [] kd m (zqI kd q) := by
  refine EvX.blk (pc' := 88) [(.iload 6, 0, 0), (.aload_n 0, 0, 0), (.iload_n 1, 0, 0)] (by decide +kernel) trivial ?_
  show Ev (d + 1) M_Mo_same 0 0 88 [(2, v0), (0, v1), (0, v2), (0, v3), (0, v4), (0, v5), (0, v6), zJ] [(0, v1), (2, v0), (0, v6)] kd m (zqI kd q)
  obtain ⟨ov, h⟩ := h
  obtain ⟨q1, hq, h⟩ := h
  refine EvX.callV (c := 8) (mc := 0) (ms := 0) (as := [(0, v1)]) (st := [(0, v6)]) (by decide +kernel) l_Mo_167 k_Mo_answers v_Mo_answers a_Mo_answers (by decide) (Nat.le_of_ble_eq_true rfl) rfl ov hq (fun r kd1 m3 hr => ?_)
  obtain ⟨x2, rfl, hk, hr⟩ := hr
  subst kd1
  have h := h x2 m3 hr
  show Ev (d + 1) M_Mo_same 0 0 91 [(2, v0), (0, v1), (0, v2), (0, v3), (0, v4), (0, v5), (0, v6), zJ] [(0, x2), (0, v6)] kd m3 (zqI kd q)
  refine EvX.icmp_ge (off := 118) (tgt := 209) (by decide +kernel) (by decide) (fun hc => ?_) (fun hc => ?_)
  · have h := h.1 hc
    refine EvX.blk (pc' := 212) [(.iinc 5 1, 0, 0)] (by decide +kernel) trivial ?_
    show Ev (d + 1) M_Mo_same 0 0 212 [(2, v0), (0, v1), (0, v2), (0, v3), (0, v4), (0, iw (v5 + 1)), (0, v6), zJ] [] kd m3 (zqI kd q)
    refine EvX.goto (off := (-174)) (tgt := 38) (by decide +kernel) (by decide) ?_
    exact EvX.weak (ls2 := [(2, v0), (0, v1), (0, v2), (0, v3), (0, v4), (0, iw (v5 + 1)), zJ, zJ]) (zwk_of ⟨Or.inr rfl, Or.inr rfl, Or.inr rfl, Or.inr rfl, Or.inr rfl, Or.inr rfl, Or.inl rfl, Or.inl rfl, trivial⟩) h
  · have h := h.2 hc
    refine EvX.blk (pc' := 97) [(.iconst 0, 0, 0), (.istore 7, 0, 0)] (by decide +kernel) trivial ?_
    show Ev (d + 1) M_Mo_same 0 0 97 [(2, v0), (0, v1), (0, v2), (0, v3), (0, v4), (0, v5), (0, v6), (0, 0)] [] kd m3 (zqI kd q)
    exact h
set_option maxRecDepth 20000 in
set_option maxHeartbeats 1000000 in
theorem T_Mo_same_97 {d : Nat} {kd : ZK} {m : ZM} {q : Int → ZM → Prop} {v0 v1 v2 v3 v4 v5 v6 v7 : Int} (h : (zobj kd v0 8 ∧ ∃ q1, CtI d M_Mo_answers [(2, v0), (0, iw (1 - v1))] kd m q1 ∧ ∀ x2 m3, q1 x2 m3 → ((x2 ≤ v7 → (Ev (d + 1) M_Mo_same 0 0 84 [(2, v0), (0, v1), (0, v2), (0, v3), (0, v4), (0, v5), (0, iw (v6 + 1)), zJ] [] kd m3 (zqI kd q))) ∧ (¬ x2 ≤ v7 → ((v4 = 0 → (Ev (d + 1) M_Mo_same 0 0 150 [(2, v0), (0, v1), (0, v2), (0, v3), zJ, (0, v5), (0, v6), (0, v7)] [(0, 0)] kd m3 (zqI kd q))) ∧ (¬ v4 = 0 → (zobj kd v0 8 ∧ ∃ q4, CtI d M_Mo_seen [(2, v0), (0, v1), (0, 29), (0, v2), (0, v5), (0, v6), (0, v7)] kd m3 q4 ∧ ∀ x5 m6, q4 x5 m6 → (zobj kd v0 8 ∧ ∃ q7, CtI d M_Mo_seen [(2, v0), (0, v1), (0, 29), (0, v3), (0, v5), (0, v6), (0, v7)] kd m6 q7 ∧ ∀ x8 m9, q7 x8 m9 → ((x5 ≠ x8 → (Ev (d + 1) M_Mo_same 0 0 150 [(2, v0), (0, v1), (0, v2), (0, v3), zJ, (0, v5), (0, v6), (0, v7)] [(0, 0)] kd m9 (zqI kd q))) ∧ (¬ x5 ≠ x8 → (Ev (d + 1) M_Mo_same 0 0 150 [(2, v0), (0, v1), (0, v2), (0, v3), zJ, (0, v5), (0, v6), (0, v7)] [(0, 1)] kd m9 (zqI kd q)))))))))))) : Ev (d + 1) M_Mo_same 0 0 97 [(2, v0), (0, v1), (0, v2), (0, v3), (0, v4), (0, v5), (0, v6), (0, v7)] [] kd m (zqI kd q) := by
  refine EvX.blk (pc' := 103) [(.iload 7, 0, 0), (.aload_n 0, 0, 0), (.iconst 1, 0, 0), (.iload_n 1, 0, 0), (.isub, 0, 0)] (by decide +kernel) trivial ?_
  show Ev (d + 1) M_Mo_same 0 0 103 [(2, v0), (0, v1), (0, v2), (0, v3), (0, v4), (0, v5), (0, v6), (0, v7)] [(0, iw (1 - v1)), (2, v0), (0, v7)] kd m (zqI kd q)
  obtain ⟨ov, h⟩ := h
  obtain ⟨q1, hq, h⟩ := h
  refine EvX.callV (c := 8) (mc := 0) (ms := 0) (as := [(0, iw (1 - v1))]) (st := [(0, v7)]) (by decide +kernel) l_Mo_167 k_Mo_answers v_Mo_answers a_Mo_answers (by decide) (Nat.le_of_ble_eq_true rfl) rfl ov hq (fun r kd1 m3 hr => ?_)
  obtain ⟨x2, rfl, hk, hr⟩ := hr
  subst kd1
  have h := h x2 m3 hr
  show Ev (d + 1) M_Mo_same 0 0 106 [(2, v0), (0, v1), (0, v2), (0, v3), (0, v4), (0, v5), (0, v6), (0, v7)] [(0, x2), (0, v7)] kd m3 (zqI kd q)
  refine EvX.icmp_ge (off := 97) (tgt := 203) (by decide +kernel) (by decide) (fun hc => ?_) (fun hc => ?_)
  · have h := h.1 hc
    refine EvX.blk (pc' := 206) [(.iinc 6 1, 0, 0)] (by decide +kernel) trivial ?_
    show Ev (d + 1) M_Mo_same 0 0 206 [(2, v0), (0, v1), (0, v2), (0, v3), (0, v4), (0, v5), (0, iw (v6 + 1)), (0, v7)] [] kd m3 (zqI kd q)
    refine EvX.goto (off := (-122)) (tgt := 84) (by decide +kernel) (by decide) ?_
    exact EvX.weak (ls2 := [(2, v0), (0, v1), (0, v2), (0, v3), (0, v4), (0, v5), (0, iw (v6 + 1)), zJ]) (zwk_of ⟨Or.inr rfl, Or.inr rfl, Or.inr rfl, Or.inr rfl, Or.inr rfl, Or.inr rfl, Or.inr rfl, Or.inl rfl, trivial⟩) h
  · have h := h.2 hc
    refine EvX.blk (pc' := 111) [(.iload 4, 0, 0)] (by decide +kernel) trivial ?_
    show Ev (d + 1) M_Mo_same 0 0 111 [(2, v0), (0, v1), (0, v2), (0, v3), (0, v4), (0, v5), (0, v6), (0, v7)] [(0, v4)] kd m3 (zqI kd q)
    refine EvX.if_eq (off := 38) (tgt := 149) (by decide +kernel) (by decide) (fun hc => ?_) (fun hc => ?_)
    · have h := h.1 hc
      refine EvX.blk (pc' := 150) [(.iconst 0, 0, 0)] (by decide +kernel) trivial ?_
      show Ev (d + 1) M_Mo_same 0 0 150 [(2, v0), (0, v1), (0, v2), (0, v3), (0, v4), (0, v5), (0, v6), (0, v7)] [(0, 0)] kd m3 (zqI kd q)
      exact EvX.weak (ls2 := [(2, v0), (0, v1), (0, v2), (0, v3), zJ, (0, v5), (0, v6), (0, v7)]) (zwk_of ⟨Or.inr rfl, Or.inr rfl, Or.inr rfl, Or.inr rfl, Or.inl rfl, Or.inr rfl, Or.inr rfl, Or.inr rfl, trivial⟩) h
    · have h := h.2 hc
      refine EvX.blk (pc' := 125) [(.aload_n 0, 0, 0), (.iload_n 1, 0, 0), (.bipush 29, 0, 0), (.iload_n 2, 0, 0), (.iload 5, 0, 0), (.iload 6, 0, 0), (.iload 7, 0, 0)] (by decide +kernel) trivial ?_
      show Ev (d + 1) M_Mo_same 0 0 125 [(2, v0), (0, v1), (0, v2), (0, v3), (0, v4), (0, v5), (0, v6), (0, v7)] [(0, v7), (0, v6), (0, v5), (0, v2), (0, 29), (0, v1), (2, v0)] kd m3 (zqI kd q)
      obtain ⟨ov, h⟩ := h
      obtain ⟨q4, hq, h⟩ := h
      refine EvX.callV (c := 8) (mc := 0) (ms := 0) (as := [(0, v1), (0, 29), (0, v2), (0, v5), (0, v6), (0, v7)]) (st := []) (by decide +kernel) l_Mo_245 k_Mo_seen v_Mo_seen a_Mo_seen (by decide) (Nat.le_of_ble_eq_true rfl) rfl ov hq (fun r kd1 m6 hr => ?_)
      obtain ⟨x5, rfl, hk, hr⟩ := hr
      subst kd1
      have h := h x5 m6 hr
      show Ev (d + 1) M_Mo_same 0 0 128 [(2, v0), (0, v1), (0, v2), (0, v3), (0, v4), (0, v5), (0, v6), (0, v7)] [(0, x5)] kd m6 (zqI kd q)
      refine EvX.blk (pc' := 139) [(.aload_n 0, 0, 0), (.iload_n 1, 0, 0), (.bipush 29, 0, 0), (.iload_n 3, 0, 0), (.iload 5, 0, 0), (.iload 6, 0, 0), (.iload 7, 0, 0)] (by decide +kernel) trivial ?_
      show Ev (d + 1) M_Mo_same 0 0 139 [(2, v0), (0, v1), (0, v2), (0, v3), (0, v4), (0, v5), (0, v6), (0, v7)] [(0, v7), (0, v6), (0, v5), (0, v3), (0, 29), (0, v1), (2, v0), (0, x5)] kd m6 (zqI kd q)
      obtain ⟨ov, h⟩ := h
      obtain ⟨q7, hq, h⟩ := h
      refine EvX.callV (c := 8) (mc := 0) (ms := 0) (as := [(0, v1), (0, 29), (0, v3), (0, v5), (0, v6), (0, v7)]) (st := [(0, x5)]) (by decide +kernel) l_Mo_245 k_Mo_seen v_Mo_seen a_Mo_seen (by decide) (Nat.le_of_ble_eq_true rfl) rfl ov hq (fun r kd1 m9 hr => ?_)
      obtain ⟨x8, rfl, hk, hr⟩ := hr
      subst kd1
      have h := h x8 m9 hr
      show Ev (d + 1) M_Mo_same 0 0 142 [(2, v0), (0, v1), (0, v2), (0, v3), (0, v4), (0, v5), (0, v6), (0, v7)] [(0, x8), (0, x5)] kd m9 (zqI kd q)
      refine EvX.icmp_ne (off := 7) (tgt := 149) (by decide +kernel) (by decide) (fun hc => ?_) (fun hc => ?_)
      · have h := h.1 hc
        refine EvX.blk (pc' := 150) [(.iconst 0, 0, 0)] (by decide +kernel) trivial ?_
        show Ev (d + 1) M_Mo_same 0 0 150 [(2, v0), (0, v1), (0, v2), (0, v3), (0, v4), (0, v5), (0, v6), (0, v7)] [(0, 0)] kd m9 (zqI kd q)
        exact EvX.weak (ls2 := [(2, v0), (0, v1), (0, v2), (0, v3), zJ, (0, v5), (0, v6), (0, v7)]) (zwk_of ⟨Or.inr rfl, Or.inr rfl, Or.inr rfl, Or.inr rfl, Or.inl rfl, Or.inr rfl, Or.inr rfl, Or.inr rfl, trivial⟩) h
      · have h := h.2 hc
        refine EvX.blk (pc' := 146) [(.iconst 1, 0, 0)] (by decide +kernel) trivial ?_
        show Ev (d + 1) M_Mo_same 0 0 146 [(2, v0), (0, v1), (0, v2), (0, v3), (0, v4), (0, v5), (0, v6), (0, v7)] [(0, 1)] kd m9 (zqI kd q)
        refine EvX.goto (off := 4) (tgt := 150) (by decide +kernel) (by decide) ?_
        exact EvX.weak (ls2 := [(2, v0), (0, v1), (0, v2), (0, v3), zJ, (0, v5), (0, v6), (0, v7)]) (zwk_of ⟨Or.inr rfl, Or.inr rfl, Or.inr rfl, Or.inr rfl, Or.inl rfl, Or.inr rfl, Or.inr rfl, Or.inr rfl, trivial⟩) h
set_option maxRecDepth 20000 in
set_option maxHeartbeats 1000000 in
theorem T_Mo_same_150 {d : Nat} {kd : ZK} {m : ZM} {q : Int → ZM → Prop} {v0 v1 v2 v3 v5 v6 v7 s0 : Int} (h : ((s0 = 0 → (Ev (d + 1) M_Mo_same 0 0 97 [(2, v0), (0, v1), (0, v2), (0, v3), (0, 0), (0, v5), (0, v6), (0, iw (v7 + 1))] [] kd m (zqI kd q))) ∧ (¬ s0 = 0 → (zobj kd v0 8 ∧ ∃ q1, CtI d M_Mo_seen [(2, v0), (0, v1), (0, 429), (0, v2), (0, v5), (0, v6), (0, v7)] kd m q1 ∧ ∀ x2 m3, q1 x2 m3 → (zobj kd v0 8 ∧ ∃ q4, CtI d M_Mo_seen [(2, v0), (0, v1), (0, 429), (0, v3), (0, v5), (0, v6), (0, v7)] kd m3 q4 ∧ ∀ x5 m6, q4 x5 m6 → ((x2 ≠ x5 → (Ev (d + 1) M_Mo_same 0 0 97 [(2, v0), (0, v1), (0, v2), (0, v3), (0, 0), (0, v5), (0, v6), (0, iw (v7 + 1))] [] kd m6 (zqI kd q))) ∧ (¬ x2 ≠ x5 → (Ev (d + 1) M_Mo_same 0 0 97 [(2, v0), (0, v1), (0, v2), (0, v3), (0, 1), (0, v5), (0, v6), (0, iw (v7 + 1))] [] kd m6 (zqI kd q))))))))) : Ev (d + 1) M_Mo_same 0 0 150 [(2, v0), (0, v1), (0, v2), (0, v3), zJ, (0, v5), (0, v6), (0, v7)] [(0, s0)] kd m (zqI kd q) := by
  refine EvX.blk (pc' := 154) [(.istore 4, 0, 0), (.iload 4, 0, 0)] (by decide +kernel) trivial ?_
  show Ev (d + 1) M_Mo_same 0 0 154 [(2, v0), (0, v1), (0, v2), (0, v3), (0, s0), (0, v5), (0, v6), (0, v7)] [(0, s0)] kd m (zqI kd q)
  refine EvX.if_eq (off := 40) (tgt := 194) (by decide +kernel) (by decide) (fun hc => ?_) (fun hc => ?_)
  · have h := h.1 hc
    refine EvX.blk (pc' := 200) [(.iconst 0, 0, 0), (.istore 4, 0, 0), (.iinc 7 1, 0, 0)] (by decide +kernel) trivial ?_
    show Ev (d + 1) M_Mo_same 0 0 200 [(2, v0), (0, v1), (0, v2), (0, v3), (0, 0), (0, v5), (0, v6), (0, iw (v7 + 1))] [] kd m (zqI kd q)
    refine EvX.goto (off := (-103)) (tgt := 97) (by decide +kernel) (by decide) ?_
    exact h
  · have h := h.2 hc
    refine EvX.blk (pc' := 169) [(.aload_n 0, 0, 0), (.iload_n 1, 0, 0), (.sipush 429, 0, 0), (.iload_n 2, 0, 0), (.iload 5, 0, 0), (.iload 6, 0, 0), (.iload 7, 0, 0)] (by decide +kernel) trivial ?_
    show Ev (d + 1) M_Mo_same 0 0 169 [(2, v0), (0, v1), (0, v2), (0, v3), (0, s0), (0, v5), (0, v6), (0, v7)] [(0, v7), (0, v6), (0, v5), (0, v2), (0, 429), (0, v1), (2, v0)] kd m (zqI kd q)
    obtain ⟨ov, h⟩ := h
    obtain ⟨q1, hq, h⟩ := h
    refine EvX.callV (c := 8) (mc := 0) (ms := 0) (as := [(0, v1), (0, 429), (0, v2), (0, v5), (0, v6), (0, v7)]) (st := []) (by decide +kernel) l_Mo_245 k_Mo_seen v_Mo_seen a_Mo_seen (by decide) (Nat.le_of_ble_eq_true rfl) rfl ov hq (fun r kd1 m3 hr => ?_)
    obtain ⟨x2, rfl, hk, hr⟩ := hr
    subst kd1
    have h := h x2 m3 hr
    show Ev (d + 1) M_Mo_same 0 0 172 [(2, v0), (0, v1), (0, v2), (0, v3), (0, s0), (0, v5), (0, v6), (0, v7)] [(0, x2)] kd m3 (zqI kd q)
    refine EvX.blk (pc' := 184) [(.aload_n 0, 0, 0), (.iload_n 1, 0, 0), (.sipush 429, 0, 0), (.iload_n 3, 0, 0), (.iload 5, 0, 0), (.iload 6, 0, 0), (.iload 7, 0, 0)] (by decide +kernel) trivial ?_
    show Ev (d + 1) M_Mo_same 0 0 184 [(2, v0), (0, v1), (0, v2), (0, v3), (0, s0), (0, v5), (0, v6), (0, v7)] [(0, v7), (0, v6), (0, v5), (0, v3), (0, 429), (0, v1), (2, v0), (0, x2)] kd m3 (zqI kd q)
    obtain ⟨ov, h⟩ := h
    obtain ⟨q4, hq, h⟩ := h
    refine EvX.callV (c := 8) (mc := 0) (ms := 0) (as := [(0, v1), (0, 429), (0, v3), (0, v5), (0, v6), (0, v7)]) (st := [(0, x2)]) (by decide +kernel) l_Mo_245 k_Mo_seen v_Mo_seen a_Mo_seen (by decide) (Nat.le_of_ble_eq_true rfl) rfl ov hq (fun r kd1 m6 hr => ?_)
    obtain ⟨x5, rfl, hk, hr⟩ := hr
    subst kd1
    have h := h x5 m6 hr
    show Ev (d + 1) M_Mo_same 0 0 187 [(2, v0), (0, v1), (0, v2), (0, v3), (0, s0), (0, v5), (0, v6), (0, v7)] [(0, x5), (0, x2)] kd m6 (zqI kd q)
    refine EvX.icmp_ne (off := 7) (tgt := 194) (by decide +kernel) (by decide) (fun hc => ?_) (fun hc => ?_)
    · have h := h.1 hc
      refine EvX.blk (pc' := 200) [(.iconst 0, 0, 0), (.istore 4, 0, 0), (.iinc 7 1, 0, 0)] (by decide +kernel) trivial ?_
      show Ev (d + 1) M_Mo_same 0 0 200 [(2, v0), (0, v1), (0, v2), (0, v3), (0, 0), (0, v5), (0, v6), (0, iw (v7 + 1))] [] kd m6 (zqI kd q)
      refine EvX.goto (off := (-103)) (tgt := 97) (by decide +kernel) (by decide) ?_
      exact h
    · have h := h.2 hc
      refine EvX.blk (pc' := 191) [(.iconst 1, 0, 0)] (by decide +kernel) trivial ?_
      show Ev (d + 1) M_Mo_same 0 0 191 [(2, v0), (0, v1), (0, v2), (0, v3), (0, s0), (0, v5), (0, v6), (0, v7)] [(0, 1)] kd m6 (zqI kd q)
      refine EvX.goto (off := 4) (tgt := 195) (by decide +kernel) (by decide) ?_
      refine EvX.blk (pc' := 200) [(.istore 4, 0, 0), (.iinc 7 1, 0, 0)] (by decide +kernel) trivial ?_
      show Ev (d + 1) M_Mo_same 0 0 200 [(2, v0), (0, v1), (0, v2), (0, v3), (0, 1), (0, v5), (0, v6), (0, iw (v7 + 1))] [] kd m6 (zqI kd q)
      refine EvX.goto (off := (-103)) (tgt := 97) (by decide +kernel) (by decide) ?_
      exact h
set_option maxRecDepth 20000 in
set_option maxHeartbeats 1000000 in
theorem T_Mo_climb_0 {d : Nat} {kd : ZK} {m : ZM} {q : Int → ZM → Prop} {v0 v1 v2 v3 : Int} (h : (zobj kd v0 8 ∧ ∃ q1, CtI d M_Mo_lays [(2, v0), (0, 0), (0, v1)] kd m q1 ∧ ∀ x2 m3, q1 x2 m3 → ((x2 = 0 → q (-1) m3) ∧ (¬ x2 = 0 → (zobj kd v0 8 ∧ ∃ q4, CtI d M_Mo_lays [(2, v0), (0, 1), (0, v2)] kd m3 q4 ∧ ∀ x5 m6, q4 x5 m6 → ((x5 = 0 → q (-1) m6) ∧ (¬ x5 = 0 → (∃ q7, CtI d M_Mo_in [(1, v3), (1, 0), (1, 3)] kd m6 q7 ∧ ∀ x8 m9, q7 x8 m9 → ((x8 ≠ 0 → (zobj kd v0 8 ∧ ∃ q10, CtI d M_Mo_worthNow [(2, v0)] kd m9 q10 ∧ ∀ x11 m12, q10 x11 m12 → (Ev (d + 1) M_Mo_climb 0 0 47 [(2, v0), zJ, zJ, (0, v3), (0, x11), (0, 0), (0, 1), (0, 0), zJ, zJ, zJ] [] kd m12 (zqI kd q)))) ∧ (¬ x8 ≠ 0 → q (-1) m9)))))))))) : Ev (d + 1) M_Mo_climb 0 0 0 [(2, v0), (0, v1), (0, v2), (0, v3), zJ, zJ, zJ, zJ, zJ, zJ, zJ] [] kd m (zqI kd q) := by
  refine EvX.blk (pc' := 3) [(.aload_n 0, 0, 0), (.iconst 0, 0, 0), (.iload_n 1, 0, 0)] (by decide +kernel) trivial ?_
  show Ev (d + 1) M_Mo_climb 0 0 3 [(2, v0), (0, v1), (0, v2), (0, v3), zJ, zJ, zJ, zJ, zJ, zJ, zJ] [(0, v1), (0, 0), (2, v0)] kd m (zqI kd q)
  obtain ⟨ov, h⟩ := h
  obtain ⟨q1, hq, h⟩ := h
  refine EvX.callV (c := 8) (mc := 0) (ms := 0) (as := [(0, 0), (0, v1)]) (st := []) (by decide +kernel) l_Mo_229 k_Mo_lays v_Mo_lays a_Mo_lays (by decide) (Nat.le_of_ble_eq_true rfl) rfl ov hq (fun r kd1 m3 hr => ?_)
  obtain ⟨x2, rfl, hk, hr⟩ := hr
  subst kd1
  have h := h x2 m3 hr
  show Ev (d + 1) M_Mo_climb 0 0 6 [(2, v0), (0, v1), (0, v2), (0, v3), zJ, zJ, zJ, zJ, zJ, zJ, zJ] [(0, x2)] kd m3 (zqI kd q)
  refine EvX.if_eq (off := 24) (tgt := 30) (by decide +kernel) (by decide) (fun hc => ?_) (fun hc => ?_)
  · have h := h.1 hc
    refine EvX.blk (pc' := 31) [(.iconst (-1), 0, 0)] (by decide +kernel) trivial ?_
    show Ev (d + 1) M_Mo_climb 0 0 31 [(2, v0), (0, v1), (0, v2), (0, v3), zJ, zJ, zJ, zJ, zJ, zJ, zJ] [(0, (-1))] kd m3 (zqI kd q)
    exact EvX.ret (r := (0, (-1))) (by decide +kernel) rfl ⟨_, rfl, rfl, h⟩
  · have h := h.2 hc
    refine EvX.blk (pc' := 12) [(.aload_n 0, 0, 0), (.iconst 1, 0, 0), (.iload_n 2, 0, 0)] (by decide +kernel) trivial ?_
    show Ev (d + 1) M_Mo_climb 0 0 12 [(2, v0), (0, v1), (0, v2), (0, v3), zJ, zJ, zJ, zJ, zJ, zJ, zJ] [(0, v2), (0, 1), (2, v0)] kd m3 (zqI kd q)
    obtain ⟨ov, h⟩ := h
    obtain ⟨q4, hq, h⟩ := h
    refine EvX.callV (c := 8) (mc := 0) (ms := 0) (as := [(0, 1), (0, v2)]) (st := []) (by decide +kernel) l_Mo_229 k_Mo_lays v_Mo_lays a_Mo_lays (by decide) (Nat.le_of_ble_eq_true rfl) rfl ov hq (fun r kd1 m6 hr => ?_)
    obtain ⟨x5, rfl, hk, hr⟩ := hr
    subst kd1
    have h := h x5 m6 hr
    show Ev (d + 1) M_Mo_climb 0 0 15 [(2, v0), (0, v1), (0, v2), (0, v3), zJ, zJ, zJ, zJ, zJ, zJ, zJ] [(0, x5)] kd m6 (zqI kd q)
    refine EvX.if_eq (off := 15) (tgt := 30) (by decide +kernel) (by decide) (fun hc => ?_) (fun hc => ?_)
    · have h := h.1 hc
      refine EvX.blk (pc' := 31) [(.iconst (-1), 0, 0)] (by decide +kernel) trivial ?_
      show Ev (d + 1) M_Mo_climb 0 0 31 [(2, v0), (0, v1), (0, v2), (0, v3), zJ, zJ, zJ, zJ, zJ, zJ, zJ] [(0, (-1))] kd m6 (zqI kd q)
      exact EvX.ret (r := (0, (-1))) (by decide +kernel) rfl ⟨_, rfl, rfl, h⟩
    · have h := h.2 hc
      refine EvX.blk (pc' := 24) [(.iload_n 3, 0, 0), (.i2l, 0, 0), (.lconst 0, 0, 0), (.ldc2_w 322, 0, 3)] (by decide +kernel) ⟨z_Mo_322, trivial⟩ ?_
      show Ev (d + 1) M_Mo_climb 0 0 24 [(2, v0), (0, v1), (0, v2), (0, v3), zJ, zJ, zJ, zJ, zJ, zJ, zJ] [(1, 3), (1, 0), (1, v3)] kd m6 (zqI kd q)
      obtain ⟨q7, hq, h⟩ := h
      refine EvX.callS (mc := 0) (ms := 0) (as := [(1, v3), (1, 0), (1, 3)]) (st := []) (by decide +kernel) l_Mo_93 k_Mo_in s_Mo_in a_Mo_in (by decide) (Nat.le_of_ble_eq_true rfl) hq (fun r kd1 m9 hr => ?_)
      obtain ⟨x8, rfl, hk, hr⟩ := hr
      subst kd1
      have h := h x8 m9 hr
      show Ev (d + 1) M_Mo_climb 0 0 27 [(2, v0), (0, v1), (0, v2), (0, v3), zJ, zJ, zJ, zJ, zJ, zJ, zJ] [(0, x8)] kd m9 (zqI kd q)
      refine EvX.if_ne (off := 5) (tgt := 32) (by decide +kernel) (by decide) (fun hc => ?_) (fun hc => ?_)
      · have h := h.1 hc
        refine EvX.blk (pc' := 33) [(.aload_n 0, 0, 0)] (by decide +kernel) trivial ?_
        show Ev (d + 1) M_Mo_climb 0 0 33 [(2, v0), (0, v1), (0, v2), (0, v3), zJ, zJ, zJ, zJ, zJ, zJ, zJ] [(2, v0)] kd m9 (zqI kd q)
        obtain ⟨ov, h⟩ := h
        obtain ⟨q10, hq, h⟩ := h
        refine EvX.callV (c := 8) (mc := 0) (ms := 0) (as := []) (st := []) (by decide +kernel) l_Mo_293 k_Mo_worthNow v_Mo_worthNow a_Mo_worthNow (by decide) (Nat.le_of_ble_eq_true rfl) rfl ov hq (fun r kd1 m12 hr => ?_)
        obtain ⟨x11, rfl, hk, hr⟩ := hr
        subst kd1
        have h := h x11 m12 hr
        show Ev (d + 1) M_Mo_climb 0 0 36 [(2, v0), (0, v1), (0, v2), (0, v3), zJ, zJ, zJ, zJ, zJ, zJ, zJ] [(0, x11)] kd m12 (zqI kd q)
        refine EvX.blk (pc' := 47) [(.istore 4, 0, 0), (.iconst 0, 0, 0), (.istore 5, 0, 0), (.iconst 1, 0, 0), (.istore 6, 0, 0), (.iconst 0, 0, 0), (.istore 7, 0, 0)] (by decide +kernel) trivial ?_
        show Ev (d + 1) M_Mo_climb 0 0 47 [(2, v0), (0, v1), (0, v2), (0, v3), (0, x11), (0, 0), (0, 1), (0, 0), zJ, zJ, zJ] [] kd m12 (zqI kd q)
        exact EvX.weak (ls2 := [(2, v0), zJ, zJ, (0, v3), (0, x11), (0, 0), (0, 1), (0, 0), zJ, zJ, zJ]) (zwk_of ⟨Or.inr rfl, Or.inl rfl, Or.inl rfl, Or.inr rfl, Or.inr rfl, Or.inr rfl, Or.inr rfl, Or.inr rfl, Or.inl rfl, Or.inl rfl, Or.inl rfl, trivial⟩) h
      · have h := h.2 hc
        refine EvX.blk (pc' := 31) [(.iconst (-1), 0, 0)] (by decide +kernel) trivial ?_
        show Ev (d + 1) M_Mo_climb 0 0 31 [(2, v0), (0, v1), (0, v2), (0, v3), zJ, zJ, zJ, zJ, zJ, zJ, zJ] [(0, (-1))] kd m9 (zqI kd q)
        exact EvX.ret (r := (0, (-1))) (by decide +kernel) rfl ⟨_, rfl, rfl, h⟩
theorem S_Mo_climb {d : Nat} {kd : ZK} {m : ZM} {q : Int → ZM → Prop} {v0 v1 v2 v3 : Int} (h : (zobj kd v0 8 ∧ ∃ q1, CtI d M_Mo_lays [(2, v0), (0, 0), (0, v1)] kd m q1 ∧ ∀ x2 m3, q1 x2 m3 → ((x2 = 0 → q (-1) m3) ∧ (¬ x2 = 0 → (zobj kd v0 8 ∧ ∃ q4, CtI d M_Mo_lays [(2, v0), (0, 1), (0, v2)] kd m3 q4 ∧ ∀ x5 m6, q4 x5 m6 → ((x5 = 0 → q (-1) m6) ∧ (¬ x5 = 0 → (∃ q7, CtI d M_Mo_in [(1, v3), (1, 0), (1, 3)] kd m6 q7 ∧ ∀ x8 m9, q7 x8 m9 → ((x8 ≠ 0 → (zobj kd v0 8 ∧ ∃ q10, CtI d M_Mo_worthNow [(2, v0)] kd m9 q10 ∧ ∀ x11 m12, q10 x11 m12 → (Ev (d + 1) M_Mo_climb 0 0 47 [(2, v0), zJ, zJ, (0, v3), (0, x11), (0, 0), (0, 1), (0, 0), zJ, zJ, zJ] [] kd m12 (zqI kd q)))) ∧ (¬ x8 ≠ 0 → q (-1) m9)))))))))) : CtI (d + 1) M_Mo_climb [(2, v0), (0, v1), (0, v2), (0, v3)] kd m q :=
  Ct.start k_Mo_climb (Nat.le_of_ble_eq_true rfl) ⟨1, Or.inr (Or.inl ⟨rfl, rfl⟩)⟩ (T_Mo_climb_0 h)
set_option maxRecDepth 20000 in
set_option maxHeartbeats 1000000 in
theorem T_Mo_climb_47 {d : Nat} {kd : ZK} {m : ZM} {q : Int → ZM → Prop} {v0 v3 v4 v5 v6 v7 : Int} (h : ((2 ≤ v7 → ((v3 ≠ 0 → ((v3 ≠ 1 → ((v3 ≠ 2 → q v5 m) ∧ (¬ v3 ≠ 2 → (zobj kd v0 8 ∧ ∃ q1, CtI d M_Mo_toldOf [(2, v0), (0, 1)] kd m q1 ∧ ∀ x2 m3, q1 x2 m3 → q x2 m3)))) ∧ (¬ v3 ≠ 1 → (zobj kd v0 8 ∧ ∃ q4, CtI d M_Mo_toldOf [(2, v0), (0, 0)] kd m q4 ∧ ∀ x5 m6, q4 x5 m6 → q x5 m6)))) ∧ (¬ v3 ≠ 0 → q v4 m))) ∧ (¬ 2 ≤ v7 → (zobj kd v0 8 ∧ ∃ q7, CtI d M_Mo_toldOf [(2, v0), (0, v6)] kd m q7 ∧ ∀ x8 m9, q7 x8 m9 → (zobj kd v0 8 ∧ ∃ q10, CtV d M_Mo_replies [(2, v0), (0, v6)] kd m9 q10 ∧ ∀ m12, q10 m12 → (zobj kd v0 8 ∧ ∃ q13, CtI d M_Mo_worthNow [(2, v0)] kd m12 q13 ∧ ∀ x14 m15, q13 x14 m15 → ((x14 ≤ v4 → (zobj kd v0 8 ∧ ∃ q16, CtI d M_Mo_lays [(2, v0), (0, v6), (0, x8)] kd m15 q16 ∧ ∀ x17 m18, q16 x17 m18 → (Ev (d + 1) M_Mo_climb 0 0 47 [(2, v0), zJ, zJ, (0, v3), (0, v4), (0, v5), (0, iw (1 - v6)), (0, iw (v7 + 1)), zJ, zJ, zJ] [] kd m18 (zqI kd q)))) ∧ (¬ x14 ≤ v4 → (Ev (d + 1) M_Mo_climb 0 0 47 [(2, v0), zJ, zJ, (0, v3), (0, x14), (0, iw (v5 + 1)), (0, iw (1 - v6)), (0, 0), zJ, zJ, zJ] [] kd m15 (zqI kd q)))))))))) : Ev (d + 1) M_Mo_climb 0 0 47 [(2, v0), zJ, zJ, (0, v3), (0, v4), (0, v5), (0, v6), (0, v7), zJ, zJ, zJ] [] kd m (zqI kd q) := by
  refine EvX.blk (pc' := 50) [(.iload 7, 0, 0), (.iconst 2, 0, 0)] (by decide +kernel) trivial ?_
  show Ev (d + 1) M_Mo_climb 0 0 50 [(2, v0), zJ, zJ, (0, v3), (0, v4), (0, v5), (0, v6), (0, v7), zJ, zJ, zJ] [(0, 2), (0, v7)] kd m (zqI kd q)
  refine EvX.icmp_ge (off := 65) (tgt := 115) (by decide +kernel) (by decide) (fun hc => ?_) (fun hc => ?_)
  · have h := h.1 hc
    refine EvX.blk (pc' := 116) [(.iload_n 3, 0, 0)] (by decide +kernel) trivial ?_
    show Ev (d + 1) M_Mo_climb 0 0 116 [(2, v0), zJ, zJ, (0, v3), (0, v4), (0, v5), (0, v6), (0, v7), zJ, zJ, zJ] [(0, v3)] kd m (zqI kd q)
    refine EvX.if_ne (off := 8) (tgt := 124) (by decide +kernel) (by decide) (fun hc => ?_) (fun hc => ?_)
    · have h := h.1 hc
      refine EvX.blk (pc' := 126) [(.iload_n 3, 0, 0), (.iconst 1, 0, 0)] (by decide +kernel) trivial ?_
      show Ev (d + 1) M_Mo_climb 0 0 126 [(2, v0), zJ, zJ, (0, v3), (0, v4), (0, v5), (0, v6), (0, v7), zJ, zJ, zJ] [(0, 1), (0, v3)] kd m (zqI kd q)
      refine EvX.icmp_ne (off := 11) (tgt := 137) (by decide +kernel) (by decide) (fun hc => ?_) (fun hc => ?_)
      · have h := h.1 hc
        refine EvX.blk (pc' := 139) [(.iload_n 3, 0, 0), (.iconst 2, 0, 0)] (by decide +kernel) trivial ?_
        show Ev (d + 1) M_Mo_climb 0 0 139 [(2, v0), zJ, zJ, (0, v3), (0, v4), (0, v5), (0, v6), (0, v7), zJ, zJ, zJ] [(0, 2), (0, v3)] kd m (zqI kd q)
        refine EvX.icmp_ne (off := 11) (tgt := 150) (by decide +kernel) (by decide) (fun hc => ?_) (fun hc => ?_)
        · have h := h.1 hc
          refine EvX.blk (pc' := 152) [(.iload 5, 0, 0)] (by decide +kernel) trivial ?_
          show Ev (d + 1) M_Mo_climb 0 0 152 [(2, v0), zJ, zJ, (0, v3), (0, v4), (0, v5), (0, v6), (0, v7), zJ, zJ, zJ] [(0, v5)] kd m (zqI kd q)
          exact EvX.ret (r := (0, v5)) (by decide +kernel) rfl ⟨_, rfl, rfl, h⟩
        · have h := h.2 hc
          refine EvX.blk (pc' := 144) [(.aload_n 0, 0, 0), (.iconst 1, 0, 0)] (by decide +kernel) trivial ?_
          show Ev (d + 1) M_Mo_climb 0 0 144 [(2, v0), zJ, zJ, (0, v3), (0, v4), (0, v5), (0, v6), (0, v7), zJ, zJ, zJ] [(0, 1), (2, v0)] kd m (zqI kd q)
          obtain ⟨ov, h⟩ := h
          obtain ⟨q1, hq, h⟩ := h
          refine EvX.callV (c := 8) (mc := 0) (ms := 0) (as := [(0, 1)]) (st := []) (by decide +kernel) l_Mo_278 k_Mo_toldOf v_Mo_toldOf a_Mo_toldOf (by decide) (Nat.le_of_ble_eq_true rfl) rfl ov hq (fun r kd1 m3 hr => ?_)
          obtain ⟨x2, rfl, hk, hr⟩ := hr
          subst kd1
          have h := h x2 m3 hr
          show Ev (d + 1) M_Mo_climb 0 0 147 [(2, v0), zJ, zJ, (0, v3), (0, v4), (0, v5), (0, v6), (0, v7), zJ, zJ, zJ] [(0, x2)] kd m3 (zqI kd q)
          refine EvX.goto (off := 5) (tgt := 152) (by decide +kernel) (by decide) ?_
          exact EvX.ret (r := (0, x2)) (by decide +kernel) rfl ⟨_, rfl, rfl, h⟩
      · have h := h.2 hc
        refine EvX.blk (pc' := 131) [(.aload_n 0, 0, 0), (.iconst 0, 0, 0)] (by decide +kernel) trivial ?_
        show Ev (d + 1) M_Mo_climb 0 0 131 [(2, v0), zJ, zJ, (0, v3), (0, v4), (0, v5), (0, v6), (0, v7), zJ, zJ, zJ] [(0, 0), (2, v0)] kd m (zqI kd q)
        obtain ⟨ov, h⟩ := h
        obtain ⟨q4, hq, h⟩ := h
        refine EvX.callV (c := 8) (mc := 0) (ms := 0) (as := [(0, 0)]) (st := []) (by decide +kernel) l_Mo_278 k_Mo_toldOf v_Mo_toldOf a_Mo_toldOf (by decide) (Nat.le_of_ble_eq_true rfl) rfl ov hq (fun r kd1 m6 hr => ?_)
        obtain ⟨x5, rfl, hk, hr⟩ := hr
        subst kd1
        have h := h x5 m6 hr
        show Ev (d + 1) M_Mo_climb 0 0 134 [(2, v0), zJ, zJ, (0, v3), (0, v4), (0, v5), (0, v6), (0, v7), zJ, zJ, zJ] [(0, x5)] kd m6 (zqI kd q)
        refine EvX.goto (off := 18) (tgt := 152) (by decide +kernel) (by decide) ?_
        exact EvX.ret (r := (0, x5)) (by decide +kernel) rfl ⟨_, rfl, rfl, h⟩
    · have h := h.2 hc
      refine EvX.blk (pc' := 121) [(.iload 4, 0, 0)] (by decide +kernel) trivial ?_
      show Ev (d + 1) M_Mo_climb 0 0 121 [(2, v0), zJ, zJ, (0, v3), (0, v4), (0, v5), (0, v6), (0, v7), zJ, zJ, zJ] [(0, v4)] kd m (zqI kd q)
      refine EvX.goto (off := 31) (tgt := 152) (by decide +kernel) (by decide) ?_
      exact EvX.ret (r := (0, v4)) (by decide +kernel) rfl ⟨_, rfl, rfl, h⟩
  · have h := h.2 hc
    refine EvX.blk (pc' := 56) [(.aload_n 0, 0, 0), (.iload 6, 0, 0)] (by decide +kernel) trivial ?_
    show Ev (d + 1) M_Mo_climb 0 0 56 [(2, v0), zJ, zJ, (0, v3), (0, v4), (0, v5), (0, v6), (0, v7), zJ, zJ, zJ] [(0, v6), (2, v0)] kd m (zqI kd q)
    obtain ⟨ov, h⟩ := h
    obtain ⟨q7, hq, h⟩ := h
    refine EvX.callV (c := 8) (mc := 0) (ms := 0) (as := [(0, v6)]) (st := []) (by decide +kernel) l_Mo_278 k_Mo_toldOf v_Mo_toldOf a_Mo_toldOf (by decide) (Nat.le_of_ble_eq_true rfl) rfl ov hq (fun r kd1 m9 hr => ?_)
    obtain ⟨x8, rfl, hk, hr⟩ := hr
    subst kd1
    have h := h x8 m9 hr
    show Ev (d + 1) M_Mo_climb 0 0 59 [(2, v0), zJ, zJ, (0, v3), (0, v4), (0, v5), (0, v6), (0, v7), zJ, zJ, zJ] [(0, x8)] kd m9 (zqI kd q)
    refine EvX.blk (pc' := 64) [(.istore 8, 0, 0), (.aload_n 0, 0, 0), (.iload 6, 0, 0)] (by decide +kernel) trivial ?_
    show Ev (d + 1) M_Mo_climb 0 0 64 [(2, v0), zJ, zJ, (0, v3), (0, v4), (0, v5), (0, v6), (0, v7), (0, x8), zJ, zJ] [(0, v6), (2, v0)] kd m9 (zqI kd q)
    obtain ⟨ov, h⟩ := h
    obtain ⟨q10, hq, h⟩ := h
    refine EvX.callV (c := 8) (mc := 0) (ms := 0) (as := [(0, v6)]) (st := []) (by decide +kernel) l_Mo_296 k_Mo_replies v_Mo_replies a_Mo_replies (by decide) (Nat.le_of_ble_eq_true rfl) rfl ov hq (fun r kd1 m12 hr => ?_)
    obtain ⟨rfl, hk, hr⟩ := hr
    subst kd1
    have h := h m12 hr
    show Ev (d + 1) M_Mo_climb 0 0 67 [(2, v0), zJ, zJ, (0, v3), (0, v4), (0, v5), (0, v6), (0, v7), (0, x8), zJ, zJ] [] kd m12 (zqI kd q)
    refine EvX.blk (pc' := 68) [(.aload_n 0, 0, 0)] (by decide +kernel) trivial ?_
    show Ev (d + 1) M_Mo_climb 0 0 68 [(2, v0), zJ, zJ, (0, v3), (0, v4), (0, v5), (0, v6), (0, v7), (0, x8), zJ, zJ] [(2, v0)] kd m12 (zqI kd q)
    obtain ⟨ov, h⟩ := h
    obtain ⟨q13, hq, h⟩ := h
    refine EvX.callV (c := 8) (mc := 0) (ms := 0) (as := []) (st := []) (by decide +kernel) l_Mo_293 k_Mo_worthNow v_Mo_worthNow a_Mo_worthNow (by decide) (Nat.le_of_ble_eq_true rfl) rfl ov hq (fun r kd1 m15 hr => ?_)
    obtain ⟨x14, rfl, hk, hr⟩ := hr
    subst kd1
    have h := h x14 m15 hr
    show Ev (d + 1) M_Mo_climb 0 0 71 [(2, v0), zJ, zJ, (0, v3), (0, v4), (0, v5), (0, v6), (0, v7), (0, x8), zJ, zJ] [(0, x14)] kd m15 (zqI kd q)
    refine EvX.blk (pc' := 77) [(.istore 9, 0, 0), (.iload 9, 0, 0), (.iload 4, 0, 0)] (by decide +kernel) trivial ?_
    show Ev (d + 1) M_Mo_climb 0 0 77 [(2, v0), zJ, zJ, (0, v3), (0, v4), (0, v5), (0, v6), (0, v7), (0, x8), (0, x14), zJ] [(0, v4), (0, x14)] kd m15 (zqI kd q)
    refine EvX.icmp_le (off := 16) (tgt := 93) (by decide +kernel) (by decide) (fun hc => ?_) (fun hc => ?_)
    · have h := h.1 hc
      refine EvX.blk (pc' := 98) [(.aload_n 0, 0, 0), (.iload 6, 0, 0), (.iload 8, 0, 0)] (by decide +kernel) trivial ?_
      show Ev (d + 1) M_Mo_climb 0 0 98 [(2, v0), zJ, zJ, (0, v3), (0, v4), (0, v5), (0, v6), (0, v7), (0, x8), (0, x14), zJ] [(0, x8), (0, v6), (2, v0)] kd m15 (zqI kd q)
      obtain ⟨ov, h⟩ := h
      obtain ⟨q16, hq, h⟩ := h
      refine EvX.callV (c := 8) (mc := 0) (ms := 0) (as := [(0, v6), (0, x8)]) (st := []) (by decide +kernel) l_Mo_229 k_Mo_lays v_Mo_lays a_Mo_lays (by decide) (Nat.le_of_ble_eq_true rfl) rfl ov hq (fun r kd1 m18 hr => ?_)
      obtain ⟨x17, rfl, hk, hr⟩ := hr
      subst kd1
      have h := h x17 m18 hr
      show Ev (d + 1) M_Mo_climb 0 0 101 [(2, v0), zJ, zJ, (0, v3), (0, v4), (0, v5), (0, v6), (0, v7), (0, x8), (0, x14), zJ] [(0, x17)] kd m18 (zqI kd q)
      refine EvX.blk (pc' := 112) [(.istore 10, 0, 0), (.iinc 7 1, 0, 0), (.iconst 1, 0, 0), (.iload 6, 0, 0), (.isub, 0, 0), (.istore 6, 0, 0)] (by decide +kernel) trivial ?_
      show Ev (d + 1) M_Mo_climb 0 0 112 [(2, v0), zJ, zJ, (0, v3), (0, v4), (0, v5), (0, iw (1 - v6)), (0, iw (v7 + 1)), (0, x8), (0, x14), (0, x17)] [] kd m18 (zqI kd q)
      refine EvX.goto (off := (-65)) (tgt := 47) (by decide +kernel) (by decide) ?_
      exact EvX.weak (ls2 := [(2, v0), zJ, zJ, (0, v3), (0, v4), (0, v5), (0, iw (1 - v6)), (0, iw (v7 + 1)), zJ, zJ, zJ]) (zwk_of ⟨Or.inr rfl, Or.inl rfl, Or.inl rfl, Or.inr rfl, Or.inr rfl, Or.inr rfl, Or.inr rfl, Or.inr rfl, Or.inl rfl, Or.inl rfl, Or.inl rfl, trivial⟩) h
    · have h := h.2 hc
      refine EvX.blk (pc' := 90) [(.iload 9, 0, 0), (.istore 4, 0, 0), (.iinc 5 1, 0, 0), (.iconst 0, 0, 0), (.istore 7, 0, 0)] (by decide +kernel) trivial ?_
      show Ev (d + 1) M_Mo_climb 0 0 90 [(2, v0), zJ, zJ, (0, v3), (0, x14), (0, iw (v5 + 1)), (0, v6), (0, 0), (0, x8), (0, x14), zJ] [] kd m15 (zqI kd q)
      refine EvX.goto (off := 16) (tgt := 106) (by decide +kernel) (by decide) ?_
      refine EvX.blk (pc' := 112) [(.iconst 1, 0, 0), (.iload 6, 0, 0), (.isub, 0, 0), (.istore 6, 0, 0)] (by decide +kernel) trivial ?_
      show Ev (d + 1) M_Mo_climb 0 0 112 [(2, v0), zJ, zJ, (0, v3), (0, x14), (0, iw (v5 + 1)), (0, iw (1 - v6)), (0, 0), (0, x8), (0, x14), zJ] [] kd m15 (zqI kd q)
      refine EvX.goto (off := (-65)) (tgt := 47) (by decide +kernel) (by decide) ?_
      exact EvX.weak (ls2 := [(2, v0), zJ, zJ, (0, v3), (0, x14), (0, iw (v5 + 1)), (0, iw (1 - v6)), (0, 0), zJ, zJ, zJ]) (zwk_of ⟨Or.inr rfl, Or.inl rfl, Or.inl rfl, Or.inr rfl, Or.inr rfl, Or.inr rfl, Or.inr rfl, Or.inr rfl, Or.inl rfl, Or.inl rfl, Or.inl rfl, trivial⟩) h
set_option maxRecDepth 20000 in
set_option maxHeartbeats 1000000 in
theorem T_Mo_laysParts_0 {d : Nat} {kd : ZK} {m : ZM} {q : ZM → Prop} {v0 : Int} (h : (zobj kd v0 8 ∧ ∃ q1, CtI d M_Mo_questions [(2, v0), (0, 0)] kd m q1 ∧ ∀ x2 m3, q1 x2 m3 → (zobj kd v0 8 ∧ ∃ q4, CtI d M_Mo_questions [(2, v0), (0, 1)] kd m3 q4 ∧ ∀ x5 m6, q4 x5 m6 → (Ev (d + 1) M_Mo_laysParts 0 0 14 [(2, v0), (0, iw (x2 + x5)), (0, 0), zJ, zJ, zJ, zJ] [] kd m6 (zqV kd q))))) : Ev (d + 1) M_Mo_laysParts 0 0 0 [(2, v0), zJ, zJ, zJ, zJ, zJ, zJ] [] kd m (zqV kd q) := by
  refine EvX.blk (pc' := 2) [(.aload_n 0, 0, 0), (.iconst 0, 0, 0)] (by decide +kernel) trivial ?_
  show Ev (d + 1) M_Mo_laysParts 0 0 2 [(2, v0), zJ, zJ, zJ, zJ, zJ, zJ] [(0, 0), (2, v0)] kd m (zqV kd q)
  obtain ⟨ov, h⟩ := h
  obtain ⟨q1, hq, h⟩ := h
  refine EvX.callV (c := 8) (mc := 0) (ms := 0) (as := [(0, 0)]) (st := []) (by decide +kernel) l_Mo_163 k_Mo_questions v_Mo_questions a_Mo_questions (by decide) (Nat.le_of_ble_eq_true rfl) rfl ov hq (fun r kd1 m3 hr => ?_)
  obtain ⟨x2, rfl, hk, hr⟩ := hr
  subst kd1
  have h := h x2 m3 hr
  show Ev (d + 1) M_Mo_laysParts 0 0 5 [(2, v0), zJ, zJ, zJ, zJ, zJ, zJ] [(0, x2)] kd m3 (zqV kd q)
  refine EvX.blk (pc' := 7) [(.aload_n 0, 0, 0), (.iconst 1, 0, 0)] (by decide +kernel) trivial ?_
  show Ev (d + 1) M_Mo_laysParts 0 0 7 [(2, v0), zJ, zJ, zJ, zJ, zJ, zJ] [(0, 1), (2, v0), (0, x2)] kd m3 (zqV kd q)
  obtain ⟨ov, h⟩ := h
  obtain ⟨q4, hq, h⟩ := h
  refine EvX.callV (c := 8) (mc := 0) (ms := 0) (as := [(0, 1)]) (st := [(0, x2)]) (by decide +kernel) l_Mo_163 k_Mo_questions v_Mo_questions a_Mo_questions (by decide) (Nat.le_of_ble_eq_true rfl) rfl ov hq (fun r kd1 m6 hr => ?_)
  obtain ⟨x5, rfl, hk, hr⟩ := hr
  subst kd1
  have h := h x5 m6 hr
  show Ev (d + 1) M_Mo_laysParts 0 0 10 [(2, v0), zJ, zJ, zJ, zJ, zJ, zJ] [(0, x5), (0, x2)] kd m6 (zqV kd q)
  refine EvX.blk (pc' := 14) [(.iadd, 0, 0), (.istore_n 1, 0, 0), (.iconst 0, 0, 0), (.istore_n 2, 0, 0)] (by decide +kernel) trivial ?_
  show Ev (d + 1) M_Mo_laysParts 0 0 14 [(2, v0), (0, iw (x2 + x5)), (0, 0), zJ, zJ, zJ, zJ] [] kd m6 (zqV kd q)
  exact h
theorem S_Mo_laysParts {d : Nat} {kd : ZK} {m : ZM} {q : ZM → Prop} {v0 : Int} (h : (zobj kd v0 8 ∧ ∃ q1, CtI d M_Mo_questions [(2, v0), (0, 0)] kd m q1 ∧ ∀ x2 m3, q1 x2 m3 → (zobj kd v0 8 ∧ ∃ q4, CtI d M_Mo_questions [(2, v0), (0, 1)] kd m3 q4 ∧ ∀ x5 m6, q4 x5 m6 → (Ev (d + 1) M_Mo_laysParts 0 0 14 [(2, v0), (0, iw (x2 + x5)), (0, 0), zJ, zJ, zJ, zJ] [] kd m6 (zqV kd q))))) : CtV (d + 1) M_Mo_laysParts [(2, v0)] kd m q :=
  Ct.start k_Mo_laysParts (Nat.le_of_ble_eq_true rfl) ⟨0, Or.inl ⟨rfl, rfl⟩⟩ (T_Mo_laysParts_0 h)
set_option maxRecDepth 20000 in
set_option maxHeartbeats 1000000 in
theorem T_Mo_laysParts_14 {d : Nat} {kd : ZK} {m : ZM} {q : ZM → Prop} {v0 v1 v2 : Int} (h : ((v1 ≤ v2 → (Ev (d + 1) M_Mo_laysParts 0 0 34 [(2, v0), zJ, (0, 1), zJ, zJ, zJ, zJ] [] kd m (zqV kd q))) ∧ (¬ v1 ≤ v2 → (zobj kd v0 8 ∧ zIn kd (m v0 17) 0 v2 ∧ (Ev (d + 1) M_Mo_laysParts 0 0 14 [(2, v0), (0, v1), (0, iw (v2 + 1)), zJ, zJ, zJ, zJ] [] kd (zup m (m v0 17) v2 v2) (zqV kd q)))))) : Ev (d + 1) M_Mo_laysParts 0 0 14 [(2, v0), (0, v1), (0, v2), zJ, zJ, zJ, zJ] [] kd m (zqV kd q) := by
  refine EvX.blk (pc' := 16) [(.iload_n 2, 0, 0), (.iload_n 1, 0, 0)] (by decide +kernel) trivial ?_
  show Ev (d + 1) M_Mo_laysParts 0 0 16 [(2, v0), (0, v1), (0, v2), zJ, zJ, zJ, zJ] [(0, v1), (0, v2)] kd m (zqV kd q)
  refine EvX.icmp_ge (off := 16) (tgt := 32) (by decide +kernel) (by decide) (fun hc => ?_) (fun hc => ?_)
  · have h := h.1 hc
    refine EvX.blk (pc' := 34) [(.iconst 1, 0, 0), (.istore_n 2, 0, 0)] (by decide +kernel) trivial ?_
    show Ev (d + 1) M_Mo_laysParts 0 0 34 [(2, v0), (0, v1), (0, 1), zJ, zJ, zJ, zJ] [] kd m (zqV kd q)
    exact EvX.weak (ls2 := [(2, v0), zJ, (0, 1), zJ, zJ, zJ, zJ]) (zwk_of ⟨Or.inr rfl, Or.inl rfl, Or.inr rfl, Or.inl rfl, Or.inl rfl, Or.inl rfl, Or.inl rfl, trivial⟩) h
  · have h := h.2 hc
    obtain ⟨o1, o2, h⟩ := h
    refine EvX.blk (pc' := 29) [(.aload_n 0, 0, 0), (.getfield 42, 8, 17), (.iload_n 2, 0, 0), (.iload_n 2, 0, 0), (.iastore, 0, 0), (.iinc 2 1, 0, 0)] (by decide +kernel) ⟨g_Mo_42, trivial⟩ ⟨o1, o2, ?_⟩
    show Ev (d + 1) M_Mo_laysParts 0 0 29 [(2, v0), (0, v1), (0, iw (v2 + 1)), zJ, zJ, zJ, zJ] [] kd (zup m (m v0 17) v2 v2) (zqV kd q)
    refine EvX.goto (off := (-15)) (tgt := 14) (by decide +kernel) (by decide) ?_
    exact h
set_option maxRecDepth 20000 in
set_option maxHeartbeats 1000000 in
theorem T_Mo_laysParts_34 {d : Nat} {kd : ZK} {m : ZM} {q : ZM → Prop} {v0 v2 : Int} (h : ((v2 = 0 → q m) ∧ (¬ v2 = 0 → (Ev (d + 1) M_Mo_laysParts 0 0 42 [(2, v0), zJ, (0, 0), (0, 0), zJ, zJ, zJ] [] kd m (zqV kd q))))) : Ev (d + 1) M_Mo_laysParts 0 0 34 [(2, v0), zJ, (0, v2), zJ, zJ, zJ, zJ] [] kd m (zqV kd q) := by
  refine EvX.blk (pc' := 35) [(.iload_n 2, 0, 0)] (by decide +kernel) trivial ?_
  show Ev (d + 1) M_Mo_laysParts 0 0 35 [(2, v0), zJ, (0, v2), zJ, zJ, zJ, zJ] [(0, v2)] kd m (zqV kd q)
  refine EvX.if_eq (off := 120) (tgt := 155) (by decide +kernel) (by decide) (fun hc => ?_) (fun hc => ?_)
  · have h := h.1 hc
    exact EvX.ret (r := zJ) (by decide +kernel) rfl ⟨rfl, rfl, h⟩
  · have h := h.2 hc
    refine EvX.blk (pc' := 42) [(.iconst 0, 0, 0), (.istore_n 2, 0, 0), (.iconst 0, 0, 0), (.istore_n 3, 0, 0)] (by decide +kernel) trivial ?_
    show Ev (d + 1) M_Mo_laysParts 0 0 42 [(2, v0), zJ, (0, 0), (0, 0), zJ, zJ, zJ] [] kd m (zqV kd q)
    exact h
set_option maxRecDepth 20000 in
set_option maxHeartbeats 1000000 in
theorem T_Mo_laysParts_42 {d : Nat} {kd : ZK} {m : ZM} {q : ZM → Prop} {v0 v2 v3 : Int} (h : (zobj kd v0 8 ∧ ∃ q1, CtI d M_Mo_questions [(2, v0), (0, 0)] kd m q1 ∧ ∀ x2 m3, q1 x2 m3 → ((x2 ≤ v3 → (Ev (d + 1) M_Mo_laysParts 0 0 34 [(2, v0), zJ, (0, v2), zJ, zJ, zJ, zJ] [] kd m3 (zqV kd q))) ∧ (¬ x2 ≤ v3 → (Ev (d + 1) M_Mo_laysParts 0 0 54 [(2, v0), zJ, (0, v2), (0, v3), (0, 0), zJ, zJ] [] kd m3 (zqV kd q)))))) : Ev (d + 1) M_Mo_laysParts 0 0 42 [(2, v0), zJ, (0, v2), (0, v3), zJ, zJ, zJ] [] kd m (zqV kd q) := by
  refine EvX.blk (pc' := 45) [(.iload_n 3, 0, 0), (.aload_n 0, 0, 0), (.iconst 0, 0, 0)] (by decide +kernel) trivial ?_
  show Ev (d + 1) M_Mo_laysParts 0 0 45 [(2, v0), zJ, (0, v2), (0, v3), zJ, zJ, zJ] [(0, 0), (2, v0), (0, v3)] kd m (zqV kd q)
  obtain ⟨ov, h⟩ := h
  obtain ⟨q1, hq, h⟩ := h
  refine EvX.callV (c := 8) (mc := 0) (ms := 0) (as := [(0, 0)]) (st := [(0, v3)]) (by decide +kernel) l_Mo_163 k_Mo_questions v_Mo_questions a_Mo_questions (by decide) (Nat.le_of_ble_eq_true rfl) rfl ov hq (fun r kd1 m3 hr => ?_)
  obtain ⟨x2, rfl, hk, hr⟩ := hr
  subst kd1
  have h := h x2 m3 hr
  show Ev (d + 1) M_Mo_laysParts 0 0 48 [(2, v0), zJ, (0, v2), (0, v3), zJ, zJ, zJ] [(0, x2), (0, v3)] kd m3 (zqV kd q)
  refine EvX.icmp_ge (off := 104) (tgt := 152) (by decide +kernel) (by decide) (fun hc => ?_) (fun hc => ?_)
  · have h := h.1 hc
    refine EvX.goto (off := (-118)) (tgt := 34) (by decide +kernel) (by decide) ?_
    exact EvX.weak (ls2 := [(2, v0), zJ, (0, v2), zJ, zJ, zJ, zJ]) (zwk_of ⟨Or.inr rfl, Or.inl rfl, Or.inr rfl, Or.inl rfl, Or.inl rfl, Or.inl rfl, Or.inl rfl, trivial⟩) h
  · have h := h.2 hc
    refine EvX.blk (pc' := 54) [(.iconst 0, 0, 0), (.istore 4, 0, 0)] (by decide +kernel) trivial ?_
    show Ev (d + 1) M_Mo_laysParts 0 0 54 [(2, v0), zJ, (0, v2), (0, v3), (0, 0), zJ, zJ] [] kd m3 (zqV kd q)
    exact h
set_option maxRecDepth 20000 in
set_option maxHeartbeats 1000000 in
theorem T_Mo_laysParts_54 {d : Nat} {kd : ZK} {m : ZM} {q : ZM → Prop} {v0 v2 v3 v4 : Int} (h : (zobj kd v0 8 ∧ ∃ q1, CtI d M_Mo_questions [(2, v0), (0, 1)] kd m q1 ∧ ∀ x2 m3, q1 x2 m3 → ((x2 ≤ v4 → (Ev (d + 1) M_Mo_laysParts 0 0 42 [(2, v0), zJ, (0, v2), (0, iw (v3 + 1)), zJ, zJ, zJ] [] kd m3 (zqV kd q))) ∧ (¬ x2 ≤ v4 → (zobj kd v0 8 ∧ ∃ q4, CtI d M_Mo_questions [(2, v0), (0, 0)] kd m3 q4 ∧ ∀ x5 m6, q4 x5 m6 → (zobj kd v0 8 ∧ ∃ q7, CtI d M_Mo_weightOf [(2, v0), (0, v3), (0, v4)] kd m6 q7 ∧ ∀ x8 m9, q7 x8 m9 → ((x8 = 0 → (Ev (d + 1) M_Mo_laysParts 0 0 54 [(2, v0), zJ, (0, v2), (0, v3), (0, iw (v4 + 1)), zJ, zJ] [] kd m9 (zqV kd q))) ∧ (¬ x8 = 0 → (zobj kd v0 8 ∧ zIn kd (m9 v0 17) 0 v3 ∧ zobj kd v0 8 ∧ zIn kd (m9 v0 17) 0 (iw (x5 + v4)) ∧ (((m9 (m9 v0 17) v3) ≠ (m9 (m9 v0 17) (iw (x5 + v4))) → (zobj kd v0 8 ∧ zIn kd (m9 v0 17) 0 v3 ∧ zobj kd v0 8 ∧ zIn kd (m9 v0 17) 0 (iw (x5 + v4)) ∧ (zobj kd v0 8 ∧ zIn kd (m9 v0 17) 0 v3 ∧ zobj kd v0 8 ∧ zIn kd ((zup m9 (m9 v0 17) v3 (zmin (m9 (m9 v0 17) v3) (m9 (m9 v0 17) (iw (x5 + v4))))) v0 17) 0 (iw (x5 + v4)) ∧ (Ev (d + 1) M_Mo_laysParts 0 0 54 [(2, v0), zJ, (0, 1), (0, v3), (0, iw (v4 + 1)), zJ, zJ] [] kd (zup (zup m9 (m9 v0 17) v3 (zmin (m9 (m9 v0 17) v3) (m9 (m9 v0 17) (iw (x5 + v4))))) ((zup m9 (m9 v0 17) v3 (zmin (m9 (m9 v0 17) v3) (m9 (m9 v0 17) (iw (x5 + v4))))) v0 17) (iw (x5 + v4)) (zmin (m9 (m9 v0 17) v3) (m9 (m9 v0 17) (iw (x5 + v4))))) (zqV kd q))))) ∧ (¬ (m9 (m9 v0 17) v3) ≠ (m9 (m9 v0 17) (iw (x5 + v4))) → (Ev (d + 1) M_Mo_laysParts 0 0 54 [(2, v0), zJ, (0, v2), (0, v3), (0, iw (v4 + 1)), zJ, zJ] [] kd m9 (zqV kd q))))))))))))) : Ev (d + 1) M_Mo_laysParts 0 0 54 [(2, v0), zJ, (0, v2), (0, v3), (0, v4), zJ, zJ] [] kd m (zqV kd q) := by
  refine EvX.blk (pc' := 58) [(.iload 4, 0, 0), (.aload_n 0, 0, 0), (.iconst 1, 0, 0)] (by decide +kernel) trivial ?_
  show Ev (d + 1) M_Mo_laysParts 0 0 58 [(2, v0), zJ, (0, v2), (0, v3), (0, v4), zJ, zJ] [(0, 1), (2, v0), (0, v4)] kd m (zqV kd q)
  obtain ⟨ov, h⟩ := h
  obtain ⟨q1, hq, h⟩ := h
  refine EvX.callV (c := 8) (mc := 0) (ms := 0) (as := [(0, 1)]) (st := [(0, v4)]) (by decide +kernel) l_Mo_163 k_Mo_questions v_Mo_questions a_Mo_questions (by decide) (Nat.le_of_ble_eq_true rfl) rfl ov hq (fun r kd1 m3 hr => ?_)
  obtain ⟨x2, rfl, hk, hr⟩ := hr
  subst kd1
  have h := h x2 m3 hr
  show Ev (d + 1) M_Mo_laysParts 0 0 61 [(2, v0), zJ, (0, v2), (0, v3), (0, v4), zJ, zJ] [(0, x2), (0, v4)] kd m3 (zqV kd q)
  refine EvX.icmp_ge (off := 85) (tgt := 146) (by decide +kernel) (by decide) (fun hc => ?_) (fun hc => ?_)
  · have h := h.1 hc
    refine EvX.blk (pc' := 149) [(.iinc 3 1, 0, 0)] (by decide +kernel) trivial ?_
    show Ev (d + 1) M_Mo_laysParts 0 0 149 [(2, v0), zJ, (0, v2), (0, iw (v3 + 1)), (0, v4), zJ, zJ] [] kd m3 (zqV kd q)
    refine EvX.goto (off := (-107)) (tgt := 42) (by decide +kernel) (by decide) ?_
    exact EvX.weak (ls2 := [(2, v0), zJ, (0, v2), (0, iw (v3 + 1)), zJ, zJ, zJ]) (zwk_of ⟨Or.inr rfl, Or.inl rfl, Or.inr rfl, Or.inr rfl, Or.inl rfl, Or.inl rfl, Or.inl rfl, trivial⟩) h
  · have h := h.2 hc
    refine EvX.blk (pc' := 66) [(.aload_n 0, 0, 0), (.iconst 0, 0, 0)] (by decide +kernel) trivial ?_
    show Ev (d + 1) M_Mo_laysParts 0 0 66 [(2, v0), zJ, (0, v2), (0, v3), (0, v4), zJ, zJ] [(0, 0), (2, v0)] kd m3 (zqV kd q)
    obtain ⟨ov, h⟩ := h
    obtain ⟨q4, hq, h⟩ := h
    refine EvX.callV (c := 8) (mc := 0) (ms := 0) (as := [(0, 0)]) (st := []) (by decide +kernel) l_Mo_163 k_Mo_questions v_Mo_questions a_Mo_questions (by decide) (Nat.le_of_ble_eq_true rfl) rfl ov hq (fun r kd1 m6 hr => ?_)
    obtain ⟨x5, rfl, hk, hr⟩ := hr
    subst kd1
    have h := h x5 m6 hr
    show Ev (d + 1) M_Mo_laysParts 0 0 69 [(2, v0), zJ, (0, v2), (0, v3), (0, v4), zJ, zJ] [(0, x5)] kd m6 (zqV kd q)
    refine EvX.blk (pc' := 78) [(.iload 4, 0, 0), (.iadd, 0, 0), (.istore 5, 0, 0), (.aload_n 0, 0, 0), (.iload_n 3, 0, 0), (.iload 4, 0, 0)] (by decide +kernel) trivial ?_
    show Ev (d + 1) M_Mo_laysParts 0 0 78 [(2, v0), zJ, (0, v2), (0, v3), (0, v4), (0, iw (x5 + v4)), zJ] [(0, v4), (0, v3), (2, v0)] kd m6 (zqV kd q)
    obtain ⟨ov, h⟩ := h
    obtain ⟨q7, hq, h⟩ := h
    refine EvX.callV (c := 8) (mc := 0) (ms := 0) (as := [(0, v3), (0, v4)]) (st := []) (by decide +kernel) l_Mo_180 k_Mo_weightOf v_Mo_weightOf a_Mo_weightOf (by decide) (Nat.le_of_ble_eq_true rfl) rfl ov hq (fun r kd1 m9 hr => ?_)
    obtain ⟨x8, rfl, hk, hr⟩ := hr
    subst kd1
    have h := h x8 m9 hr
    show Ev (d + 1) M_Mo_laysParts 0 0 81 [(2, v0), zJ, (0, v2), (0, v3), (0, v4), (0, iw (x5 + v4)), zJ] [(0, x8)] kd m9 (zqV kd q)
    refine EvX.if_eq (off := 59) (tgt := 140) (by decide +kernel) (by decide) (fun hc => ?_) (fun hc => ?_)
    · have h := h.1 hc
      refine EvX.blk (pc' := 143) [(.iinc 4 1, 0, 0)] (by decide +kernel) trivial ?_
      show Ev (d + 1) M_Mo_laysParts 0 0 143 [(2, v0), zJ, (0, v2), (0, v3), (0, iw (v4 + 1)), (0, iw (x5 + v4)), zJ] [] kd m9 (zqV kd q)
      refine EvX.goto (off := (-89)) (tgt := 54) (by decide +kernel) (by decide) ?_
      exact EvX.weak (ls2 := [(2, v0), zJ, (0, v2), (0, v3), (0, iw (v4 + 1)), zJ, zJ]) (zwk_of ⟨Or.inr rfl, Or.inl rfl, Or.inr rfl, Or.inr rfl, Or.inr rfl, Or.inl rfl, Or.inl rfl, trivial⟩) h
    · have h := h.2 hc
      obtain ⟨o1, o2, o3, o4, h⟩ := h
      refine EvX.blk (pc' := 97) [(.aload_n 0, 0, 0), (.getfield 42, 8, 17), (.iload_n 3, 0, 0), (.iaload, 0, 0), (.aload_n 0, 0, 0), (.getfield 42, 8, 17), (.iload 5, 0, 0), (.iaload, 0, 0)] (by decide +kernel) ⟨g_Mo_42, g_Mo_42, trivial⟩ ⟨o1, o2, o3, o4, ?_⟩
      show Ev (d + 1) M_Mo_laysParts 0 0 97 [(2, v0), zJ, (0, v2), (0, v3), (0, v4), (0, iw (x5 + v4)), zJ] [(0, m9 (m9 v0 17) (iw (x5 + v4))), (0, m9 (m9 v0 17) v3)] kd m9 (zqV kd q)
      refine EvX.icmp_ne (off := 6) (tgt := 103) (by decide +kernel) (by decide) (fun hc => ?_) (fun hc => ?_)
      · have h := h.1 hc
        obtain ⟨o1, o2, o3, o4, h⟩ := h
        refine EvX.blk (pc' := 116) [(.aload_n 0, 0, 0), (.getfield 42, 8, 17), (.iload_n 3, 0, 0), (.iaload, 0, 0), (.aload_n 0, 0, 0), (.getfield 42, 8, 17), (.iload 5, 0, 0), (.iaload, 0, 0)] (by decide +kernel) ⟨g_Mo_42, g_Mo_42, trivial⟩ ⟨o1, o2, o3, o4, ?_⟩
        show Ev (d + 1) M_Mo_laysParts 0 0 116 [(2, v0), zJ, (0, v2), (0, v3), (0, v4), (0, iw (x5 + v4)), zJ] [(0, m9 (m9 v0 17) (iw (x5 + v4))), (0, m9 (m9 v0 17) v3)] kd m9 (zqV kd q)
        refine EvX.mmin' (by decide +kernel) y_Mo_117 (Nat.le_of_ble_eq_true rfl) ?_
        show Ev (d + 1) M_Mo_laysParts 0 0 119 [(2, v0), zJ, (0, v2), (0, v3), (0, v4), (0, iw (x5 + v4)), zJ] [(0, zmin (m9 (m9 v0 17) v3) (m9 (m9 v0 17) (iw (x5 + v4))))] kd m9 (zqV kd q)
        obtain ⟨o1, o2, o3, o4, h⟩ := h
        refine EvX.blk (pc' := 143) [(.istore 6, 0, 0), (.aload_n 0, 0, 0), (.getfield 42, 8, 17), (.iload_n 3, 0, 0), (.iload 6, 0, 0), (.iastore, 0, 0), (.aload_n 0, 0, 0), (.getfield 42, 8, 17), (.iload 5, 0, 0), (.iload 6, 0, 0), (.iastore, 0, 0), (.iconst 1, 0, 0), (.istore_n 2, 0, 0), (.iinc 4 1, 0, 0)] (by decide +kernel) ⟨g_Mo_42, g_Mo_42, trivial⟩ ⟨o1, o2, o3, o4, ?_⟩
        show Ev (d + 1) M_Mo_laysParts 0 0 143 [(2, v0), zJ, (0, 1), (0, v3), (0, iw (v4 + 1)), (0, iw (x5 + v4)), (0, zmin (m9 (m9 v0 17) v3) (m9 (m9 v0 17) (iw (x5 + v4))))] [] kd (zup (zup m9 (m9 v0 17) v3 (zmin (m9 (m9 v0 17) v3) (m9 (m9 v0 17) (iw (x5 + v4))))) ((zup m9 (m9 v0 17) v3 (zmin (m9 (m9 v0 17) v3) (m9 (m9 v0 17) (iw (x5 + v4))))) v0 17) (iw (x5 + v4)) (zmin (m9 (m9 v0 17) v3) (m9 (m9 v0 17) (iw (x5 + v4))))) (zqV kd q)
        refine EvX.goto (off := (-89)) (tgt := 54) (by decide +kernel) (by decide) ?_
        exact EvX.weak (ls2 := [(2, v0), zJ, (0, 1), (0, v3), (0, iw (v4 + 1)), zJ, zJ]) (zwk_of ⟨Or.inr rfl, Or.inl rfl, Or.inr rfl, Or.inr rfl, Or.inr rfl, Or.inl rfl, Or.inl rfl, trivial⟩) h
      · have h := h.2 hc
        refine EvX.goto (off := 40) (tgt := 140) (by decide +kernel) (by decide) ?_
        refine EvX.blk (pc' := 143) [(.iinc 4 1, 0, 0)] (by decide +kernel) trivial ?_
        show Ev (d + 1) M_Mo_laysParts 0 0 143 [(2, v0), zJ, (0, v2), (0, v3), (0, iw (v4 + 1)), (0, iw (x5 + v4)), zJ] [] kd m9 (zqV kd q)
        refine EvX.goto (off := (-89)) (tgt := 54) (by decide +kernel) (by decide) ?_
        exact EvX.weak (ls2 := [(2, v0), zJ, (0, v2), (0, v3), (0, iw (v4 + 1)), zJ, zJ]) (zwk_of ⟨Or.inr rfl, Or.inl rfl, Or.inr rfl, Or.inr rfl, Or.inr rfl, Or.inl rfl, Or.inl rfl, trivial⟩) h
set_option maxRecDepth 20000 in
set_option maxHeartbeats 1000000 in
theorem T_Mo_parts_0 {d : Nat} {kd : ZK} {m : ZM} {q : Int → ZM → Prop} {v0 v1 : Int} (h : (zobj kd v0 8 ∧ ∃ q1, CtI d M_Mo_hasGame [(2, v0)] kd m q1 ∧ ∀ x2 m3, q1 x2 m3 → ((x2 = 0 → q (-1) m3) ∧ (¬ x2 = 0 → (∃ q4, CtI d M_Mo_in [(1, v1), (1, 0), (1, 2)] kd m3 q4 ∧ ∀ x5 m6, q4 x5 m6 → ((x5 ≠ 0 → ((v1 ≠ 2 → (zobj kd v0 8 ∧ ∃ q7, CtV d M_Mo_laysParts [(2, v0)] kd m6 q7 ∧ ∀ m9, q7 m9 → (zobj kd v0 8 ∧ ∃ q10, CtI d M_Mo_questions [(2, v0), (0, 0)] kd m9 q10 ∧ ∀ x11 m12, q10 x11 m12 → (zobj kd v0 8 ∧ ∃ q13, CtI d M_Mo_questions [(2, v0), (0, 1)] kd m12 q13 ∧ ∀ x14 m15, q13 x14 m15 → (Ev (d + 1) M_Mo_parts 0 0 70 [(2, v0), (0, v1), (0, iw (x11 + x14)), (0, 0), (0, 0), (0, 0), zJ, zJ] [] kd m15 (zqI kd q)))))) ∧ (¬ v1 ≠ 2 → (zobj kd v0 8 ∧ ∃ q16, CtI d M_Mo_mostWorth [(2, v0)] kd m6 q16 ∧ ∀ x17 m18, q16 x17 m18 → (zobj kd v0 8 ∧ ∃ q19, CtI d M_Mo_allWeights [(2, v0)] kd m18 q19 ∧ ∀ x20 m21, q19 x20 m21 → ((x17 ≠ x20 → (∃ q22, CtI d M_Mo_truth [(0, 0)] kd m21 q22 ∧ ∀ x23 m24, q22 x23 m24 → q x23 m24)) ∧ (¬ x17 ≠ x20 → (∃ q25, CtI d M_Mo_truth [(0, 1)] kd m21 q25 ∧ ∀ x26 m27, q25 x26 m27 → q x26 m27)))))))) ∧ (¬ x5 ≠ 0 → q (-1) m6))))))) : Ev (d + 1) M_Mo_parts 0 0 0 [(2, v0), (0, v1), zJ, zJ, zJ, zJ, zJ, zJ] [] kd m (zqI kd q) := by
  refine EvX.blk (pc' := 1) [(.aload_n 0, 0, 0)] (by decide +kernel) trivial ?_
  show Ev (d + 1) M_Mo_parts 0 0 1 [(2, v0), (0, v1), zJ, zJ, zJ, zJ, zJ, zJ] [(2, v0)] kd m (zqI kd q)
  obtain ⟨ov, h⟩ := h
  obtain ⟨q1, hq, h⟩ := h
  refine EvX.callV (c := 8) (mc := 0) (ms := 0) (as := []) (st := []) (by decide +kernel) l_Mo_215 k_Mo_hasGame v_Mo_hasGame a_Mo_hasGame (by decide) (Nat.le_of_ble_eq_true rfl) rfl ov hq (fun r kd1 m3 hr => ?_)
  obtain ⟨x2, rfl, hk, hr⟩ := hr
  subst kd1
  have h := h x2 m3 hr
  show Ev (d + 1) M_Mo_parts 0 0 4 [(2, v0), (0, v1), zJ, zJ, zJ, zJ, zJ, zJ] [(0, x2)] kd m3 (zqI kd q)
  refine EvX.if_eq (off := 15) (tgt := 19) (by decide +kernel) (by decide) (fun hc => ?_) (fun hc => ?_)
  · have h := h.1 hc
    refine EvX.blk (pc' := 20) [(.iconst (-1), 0, 0)] (by decide +kernel) trivial ?_
    show Ev (d + 1) M_Mo_parts 0 0 20 [(2, v0), (0, v1), zJ, zJ, zJ, zJ, zJ, zJ] [(0, (-1))] kd m3 (zqI kd q)
    exact EvX.ret (r := (0, (-1))) (by decide +kernel) rfl ⟨_, rfl, rfl, h⟩
  · have h := h.2 hc
    refine EvX.blk (pc' := 13) [(.iload_n 1, 0, 0), (.i2l, 0, 0), (.lconst 0, 0, 0), (.ldc2_w 324, 0, 2)] (by decide +kernel) ⟨z_Mo_324, trivial⟩ ?_
    show Ev (d + 1) M_Mo_parts 0 0 13 [(2, v0), (0, v1), zJ, zJ, zJ, zJ, zJ, zJ] [(1, 2), (1, 0), (1, v1)] kd m3 (zqI kd q)
    obtain ⟨q4, hq, h⟩ := h
    refine EvX.callS (mc := 0) (ms := 0) (as := [(1, v1), (1, 0), (1, 2)]) (st := []) (by decide +kernel) l_Mo_93 k_Mo_in s_Mo_in a_Mo_in (by decide) (Nat.le_of_ble_eq_true rfl) hq (fun r kd1 m6 hr => ?_)
    obtain ⟨x5, rfl, hk, hr⟩ := hr
    subst kd1
    have h := h x5 m6 hr
    show Ev (d + 1) M_Mo_parts 0 0 16 [(2, v0), (0, v1), zJ, zJ, zJ, zJ, zJ, zJ] [(0, x5)] kd m6 (zqI kd q)
    refine EvX.if_ne (off := 5) (tgt := 21) (by decide +kernel) (by decide) (fun hc => ?_) (fun hc => ?_)
    · have h := h.1 hc
      refine EvX.blk (pc' := 23) [(.iload_n 1, 0, 0), (.iconst 2, 0, 0)] (by decide +kernel) trivial ?_
      show Ev (d + 1) M_Mo_parts 0 0 23 [(2, v0), (0, v1), zJ, zJ, zJ, zJ, zJ, zJ] [(0, 2), (0, v1)] kd m6 (zqI kd q)
      refine EvX.icmp_ne (off := 23) (tgt := 46) (by decide +kernel) (by decide) (fun hc => ?_) (fun hc => ?_)
      · have h := h.1 hc
        refine EvX.blk (pc' := 47) [(.aload_n 0, 0, 0)] (by decide +kernel) trivial ?_
        show Ev (d + 1) M_Mo_parts 0 0 47 [(2, v0), (0, v1), zJ, zJ, zJ, zJ, zJ, zJ] [(2, v0)] kd m6 (zqI kd q)
        obtain ⟨ov, h⟩ := h
        obtain ⟨q7, hq, h⟩ := h
        refine EvX.callV (c := 8) (mc := 0) (ms := 0) (as := []) (st := []) (by decide +kernel) l_Mo_326 k_Mo_laysParts v_Mo_laysParts a_Mo_laysParts (by decide) (Nat.le_of_ble_eq_true rfl) rfl ov hq (fun r kd1 m9 hr => ?_)
        obtain ⟨rfl, hk, hr⟩ := hr
        subst kd1
        have h := h m9 hr
        show Ev (d + 1) M_Mo_parts 0 0 50 [(2, v0), (0, v1), zJ, zJ, zJ, zJ, zJ, zJ] [] kd m9 (zqI kd q)
        refine EvX.blk (pc' := 52) [(.aload_n 0, 0, 0), (.iconst 0, 0, 0)] (by decide +kernel) trivial ?_
        show Ev (d + 1) M_Mo_parts 0 0 52 [(2, v0), (0, v1), zJ, zJ, zJ, zJ, zJ, zJ] [(0, 0), (2, v0)] kd m9 (zqI kd q)
        obtain ⟨ov, h⟩ := h
        obtain ⟨q10, hq, h⟩ := h
        refine EvX.callV (c := 8) (mc := 0) (ms := 0) (as := [(0, 0)]) (st := []) (by decide +kernel) l_Mo_163 k_Mo_questions v_Mo_questions a_Mo_questions (by decide) (Nat.le_of_ble_eq_true rfl) rfl ov hq (fun r kd1 m12 hr => ?_)
        obtain ⟨x11, rfl, hk, hr⟩ := hr
        subst kd1
        have h := h x11 m12 hr
        show Ev (d + 1) M_Mo_parts 0 0 55 [(2, v0), (0, v1), zJ, zJ, zJ, zJ, zJ, zJ] [(0, x11)] kd m12 (zqI kd q)
        refine EvX.blk (pc' := 57) [(.aload_n 0, 0, 0), (.iconst 1, 0, 0)] (by decide +kernel) trivial ?_
        show Ev (d + 1) M_Mo_parts 0 0 57 [(2, v0), (0, v1), zJ, zJ, zJ, zJ, zJ, zJ] [(0, 1), (2, v0), (0, x11)] kd m12 (zqI kd q)
        obtain ⟨ov, h⟩ := h
        obtain ⟨q13, hq, h⟩ := h
        refine EvX.callV (c := 8) (mc := 0) (ms := 0) (as := [(0, 1)]) (st := [(0, x11)]) (by decide +kernel) l_Mo_163 k_Mo_questions v_Mo_questions a_Mo_questions (by decide) (Nat.le_of_ble_eq_true rfl) rfl ov hq (fun r kd1 m15 hr => ?_)
        obtain ⟨x14, rfl, hk, hr⟩ := hr
        subst kd1
        have h := h x14 m15 hr
        show Ev (d + 1) M_Mo_parts 0 0 60 [(2, v0), (0, v1), zJ, zJ, zJ, zJ, zJ, zJ] [(0, x14), (0, x11)] kd m15 (zqI kd q)
        refine EvX.blk (pc' := 70) [(.iadd, 0, 0), (.istore_n 2, 0, 0), (.iconst 0, 0, 0), (.istore_n 3, 0, 0), (.iconst 0, 0, 0), (.istore 4, 0, 0), (.iconst 0, 0, 0), (.istore 5, 0, 0)] (by decide +kernel) trivial ?_
        show Ev (d + 1) M_Mo_parts 0 0 70 [(2, v0), (0, v1), (0, iw (x11 + x14)), (0, 0), (0, 0), (0, 0), zJ, zJ] [] kd m15 (zqI kd q)
        exact h
      · have h := h.2 hc
        refine EvX.blk (pc' := 27) [(.aload_n 0, 0, 0)] (by decide +kernel) trivial ?_
        show Ev (d + 1) M_Mo_parts 0 0 27 [(2, v0), (0, v1), zJ, zJ, zJ, zJ, zJ, zJ] [(2, v0)] kd m6 (zqI kd q)
        obtain ⟨ov, h⟩ := h
        obtain ⟨q16, hq, h⟩ := h
        refine EvX.callV (c := 8) (mc := 0) (ms := 0) (as := []) (st := []) (by decide +kernel) l_Mo_281 k_Mo_mostWorth v_Mo_mostWorth a_Mo_mostWorth (by decide) (Nat.le_of_ble_eq_true rfl) rfl ov hq (fun r kd1 m18 hr => ?_)
        obtain ⟨x17, rfl, hk, hr⟩ := hr
        subst kd1
        have h := h x17 m18 hr
        show Ev (d + 1) M_Mo_parts 0 0 30 [(2, v0), (0, v1), zJ, zJ, zJ, zJ, zJ, zJ] [(0, x17)] kd m18 (zqI kd q)
        refine EvX.blk (pc' := 31) [(.aload_n 0, 0, 0)] (by decide +kernel) trivial ?_
        show Ev (d + 1) M_Mo_parts 0 0 31 [(2, v0), (0, v1), zJ, zJ, zJ, zJ, zJ, zJ] [(2, v0), (0, x17)] kd m18 (zqI kd q)
        obtain ⟨ov, h⟩ := h
        obtain ⟨q19, hq, h⟩ := h
        refine EvX.callV (c := 8) (mc := 0) (ms := 0) (as := []) (st := [(0, x17)]) (by decide +kernel) l_Mo_284 k_Mo_allWeights v_Mo_allWeights a_Mo_allWeights (by decide) (Nat.le_of_ble_eq_true rfl) rfl ov hq (fun r kd1 m21 hr => ?_)
        obtain ⟨x20, rfl, hk, hr⟩ := hr
        subst kd1
        have h := h x20 m21 hr
        show Ev (d + 1) M_Mo_parts 0 0 34 [(2, v0), (0, v1), zJ, zJ, zJ, zJ, zJ, zJ] [(0, x20), (0, x17)] kd m21 (zqI kd q)
        refine EvX.icmp_ne (off := 7) (tgt := 41) (by decide +kernel) (by decide) (fun hc => ?_) (fun hc => ?_)
        · have h := h.1 hc
          refine EvX.blk (pc' := 42) [(.iconst 0, 0, 0)] (by decide +kernel) trivial ?_
          show Ev (d + 1) M_Mo_parts 0 0 42 [(2, v0), (0, v1), zJ, zJ, zJ, zJ, zJ, zJ] [(0, 0)] kd m21 (zqI kd q)
          obtain ⟨q22, hq, h⟩ := h
          refine EvX.callS (mc := 0) (ms := 0) (as := [(0, 0)]) (st := []) (by decide +kernel) l_Mo_204 k_Mo_truth s_Mo_truth a_Mo_truth (by decide) (Nat.le_of_ble_eq_true rfl) hq (fun r kd1 m24 hr => ?_)
          obtain ⟨x23, rfl, hk, hr⟩ := hr
          subst kd1
          have h := h x23 m24 hr
          show Ev (d + 1) M_Mo_parts 0 0 45 [(2, v0), (0, v1), zJ, zJ, zJ, zJ, zJ, zJ] [(0, x23)] kd m24 (zqI kd q)
          exact EvX.ret (r := (0, x23)) (by decide +kernel) rfl ⟨_, rfl, rfl, h⟩
        · have h := h.2 hc
          refine EvX.blk (pc' := 38) [(.iconst 1, 0, 0)] (by decide +kernel) trivial ?_
          show Ev (d + 1) M_Mo_parts 0 0 38 [(2, v0), (0, v1), zJ, zJ, zJ, zJ, zJ, zJ] [(0, 1)] kd m21 (zqI kd q)
          refine EvX.goto (off := 4) (tgt := 42) (by decide +kernel) (by decide) ?_
          obtain ⟨q25, hq, h⟩ := h
          refine EvX.callS (mc := 0) (ms := 0) (as := [(0, 1)]) (st := []) (by decide +kernel) l_Mo_204 k_Mo_truth s_Mo_truth a_Mo_truth (by decide) (Nat.le_of_ble_eq_true rfl) hq (fun r kd1 m27 hr => ?_)
          obtain ⟨x26, rfl, hk, hr⟩ := hr
          subst kd1
          have h := h x26 m27 hr
          show Ev (d + 1) M_Mo_parts 0 0 45 [(2, v0), (0, v1), zJ, zJ, zJ, zJ, zJ, zJ] [(0, x26)] kd m27 (zqI kd q)
          exact EvX.ret (r := (0, x26)) (by decide +kernel) rfl ⟨_, rfl, rfl, h⟩
    · have h := h.2 hc
      refine EvX.blk (pc' := 20) [(.iconst (-1), 0, 0)] (by decide +kernel) trivial ?_
      show Ev (d + 1) M_Mo_parts 0 0 20 [(2, v0), (0, v1), zJ, zJ, zJ, zJ, zJ, zJ] [(0, (-1))] kd m6 (zqI kd q)
      exact EvX.ret (r := (0, (-1))) (by decide +kernel) rfl ⟨_, rfl, rfl, h⟩
theorem S_Mo_parts {d : Nat} {kd : ZK} {m : ZM} {q : Int → ZM → Prop} {v0 v1 : Int} (h : (zobj kd v0 8 ∧ ∃ q1, CtI d M_Mo_hasGame [(2, v0)] kd m q1 ∧ ∀ x2 m3, q1 x2 m3 → ((x2 = 0 → q (-1) m3) ∧ (¬ x2 = 0 → (∃ q4, CtI d M_Mo_in [(1, v1), (1, 0), (1, 2)] kd m3 q4 ∧ ∀ x5 m6, q4 x5 m6 → ((x5 ≠ 0 → ((v1 ≠ 2 → (zobj kd v0 8 ∧ ∃ q7, CtV d M_Mo_laysParts [(2, v0)] kd m6 q7 ∧ ∀ m9, q7 m9 → (zobj kd v0 8 ∧ ∃ q10, CtI d M_Mo_questions [(2, v0), (0, 0)] kd m9 q10 ∧ ∀ x11 m12, q10 x11 m12 → (zobj kd v0 8 ∧ ∃ q13, CtI d M_Mo_questions [(2, v0), (0, 1)] kd m12 q13 ∧ ∀ x14 m15, q13 x14 m15 → (Ev (d + 1) M_Mo_parts 0 0 70 [(2, v0), (0, v1), (0, iw (x11 + x14)), (0, 0), (0, 0), (0, 0), zJ, zJ] [] kd m15 (zqI kd q)))))) ∧ (¬ v1 ≠ 2 → (zobj kd v0 8 ∧ ∃ q16, CtI d M_Mo_mostWorth [(2, v0)] kd m6 q16 ∧ ∀ x17 m18, q16 x17 m18 → (zobj kd v0 8 ∧ ∃ q19, CtI d M_Mo_allWeights [(2, v0)] kd m18 q19 ∧ ∀ x20 m21, q19 x20 m21 → ((x17 ≠ x20 → (∃ q22, CtI d M_Mo_truth [(0, 0)] kd m21 q22 ∧ ∀ x23 m24, q22 x23 m24 → q x23 m24)) ∧ (¬ x17 ≠ x20 → (∃ q25, CtI d M_Mo_truth [(0, 1)] kd m21 q25 ∧ ∀ x26 m27, q25 x26 m27 → q x26 m27)))))))) ∧ (¬ x5 ≠ 0 → q (-1) m6))))))) : CtI (d + 1) M_Mo_parts [(2, v0), (0, v1)] kd m q :=
  Ct.start k_Mo_parts (Nat.le_of_ble_eq_true rfl) ⟨1, Or.inr (Or.inl ⟨rfl, rfl⟩)⟩ (T_Mo_parts_0 h)
set_option maxRecDepth 20000 in
set_option maxHeartbeats 1000000 in
theorem T_Mo_parts_70 {d : Nat} {kd : ZK} {m : ZM} {q : Int → ZM → Prop} {v0 v1 v2 v3 v4 v5 : Int} (h : ((v2 ≤ v5 → ((v1 ≠ 0 → q v4 m) ∧ (¬ v1 ≠ 0 → q v3 m))) ∧ (¬ v2 ≤ v5 → (Ev (d + 1) M_Mo_parts 0 0 82 [(2, v0), (0, v1), (0, v2), (0, v3), (0, v4), (0, v5), (0, 0), (0, 0)] [] kd m (zqI kd q))))) : Ev (d + 1) M_Mo_parts 0 0 70 [(2, v0), (0, v1), (0, v2), (0, v3), (0, v4), (0, v5), zJ, zJ] [] kd m (zqI kd q) := by
  refine EvX.blk (pc' := 73) [(.iload 5, 0, 0), (.iload_n 2, 0, 0)] (by decide +kernel) trivial ?_
  show Ev (d + 1) M_Mo_parts 0 0 73 [(2, v0), (0, v1), (0, v2), (0, v3), (0, v4), (0, v5), zJ, zJ] [(0, v2), (0, v5)] kd m (zqI kd q)
  refine EvX.icmp_ge (off := 77) (tgt := 150) (by decide +kernel) (by decide) (fun hc => ?_) (fun hc => ?_)
  · have h := h.1 hc
    refine EvX.blk (pc' := 151) [(.iload_n 1, 0, 0)] (by decide +kernel) trivial ?_
    show Ev (d + 1) M_Mo_parts 0 0 151 [(2, v0), (0, v1), (0, v2), (0, v3), (0, v4), (0, v5), zJ, zJ] [(0, v1)] kd m (zqI kd q)
    refine EvX.if_ne (off := 7) (tgt := 158) (by decide +kernel) (by decide) (fun hc => ?_) (fun hc => ?_)
    · have h := h.1 hc
      refine EvX.blk (pc' := 160) [(.iload 4, 0, 0)] (by decide +kernel) trivial ?_
      show Ev (d + 1) M_Mo_parts 0 0 160 [(2, v0), (0, v1), (0, v2), (0, v3), (0, v4), (0, v5), zJ, zJ] [(0, v4)] kd m (zqI kd q)
      exact EvX.ret (r := (0, v4)) (by decide +kernel) rfl ⟨_, rfl, rfl, h⟩
    · have h := h.2 hc
      refine EvX.blk (pc' := 155) [(.iload_n 3, 0, 0)] (by decide +kernel) trivial ?_
      show Ev (d + 1) M_Mo_parts 0 0 155 [(2, v0), (0, v1), (0, v2), (0, v3), (0, v4), (0, v5), zJ, zJ] [(0, v3)] kd m (zqI kd q)
      refine EvX.goto (off := 5) (tgt := 160) (by decide +kernel) (by decide) ?_
      exact EvX.ret (r := (0, v3)) (by decide +kernel) rfl ⟨_, rfl, rfl, h⟩
  · have h := h.2 hc
    refine EvX.blk (pc' := 82) [(.iconst 0, 0, 0), (.istore 6, 0, 0), (.iconst 0, 0, 0), (.istore 7, 0, 0)] (by decide +kernel) trivial ?_
    show Ev (d + 1) M_Mo_parts 0 0 82 [(2, v0), (0, v1), (0, v2), (0, v3), (0, v4), (0, v5), (0, 0), (0, 0)] [] kd m (zqI kd q)
    exact h
set_option maxRecDepth 20000 in
set_option maxHeartbeats 1000000 in
theorem T_Mo_parts_82 {d : Nat} {kd : ZK} {m : ZM} {q : Int → ZM → Prop} {v0 v1 v2 v3 v4 v5 v6 v7 : Int} (h : ((v2 ≤ v7 → ((v6 ≤ 0 → (Ev (d + 1) M_Mo_parts 0 0 130 [(2, v0), (0, v1), (0, v2), zJ, (0, v4), (0, v5), (0, v6), zJ] [(0, 0), (0, v3)] kd m (zqI kd q))) ∧ (¬ v6 ≤ 0 → (Ev (d + 1) M_Mo_parts 0 0 130 [(2, v0), (0, v1), (0, v2), zJ, (0, v4), (0, v5), (0, v6), zJ] [(0, 1), (0, v3)] kd m (zqI kd q))))) ∧ (¬ v2 ≤ v7 → (zobj kd v0 8 ∧ zIn kd (m v0 17) 0 v7 ∧ (((m (m v0 17) v7) ≠ v5 → (∃ q1, CtI d M_Mo_truth [(0, 0)] kd m q1 ∧ ∀ x2 m3, q1 x2 m3 → (Ev (d + 1) M_Mo_parts 0 0 82 [(2, v0), (0, v1), (0, v2), (0, v3), (0, v4), (0, v5), (0, iw (v6 + x2)), (0, iw (v7 + 1))] [] kd m3 (zqI kd q)))) ∧ (¬ (m (m v0 17) v7) ≠ v5 → (∃ q4, CtI d M_Mo_truth [(0, 1)] kd m q4 ∧ ∀ x5 m6, q4 x5 m6 → (Ev (d + 1) M_Mo_parts 0 0 82 [(2, v0), (0, v1), (0, v2), (0, v3), (0, v4), (0, v5), (0, iw (v6 + x5)), (0, iw (v7 + 1))] [] kd m6 (zqI kd q))))))))) : Ev (d + 1) M_Mo_parts 0 0 82 [(2, v0), (0, v1), (0, v2), (0, v3), (0, v4), (0, v5), (0, v6), (0, v7)] [] kd m (zqI kd q) := by
  refine EvX.blk (pc' := 85) [(.iload 7, 0, 0), (.iload_n 2, 0, 0)] (by decide +kernel) trivial ?_
  show Ev (d + 1) M_Mo_parts 0 0 85 [(2, v0), (0, v1), (0, v2), (0, v3), (0, v4), (0, v5), (0, v6), (0, v7)] [(0, v2), (0, v7)] kd m (zqI kd q)
  refine EvX.icmp_ge (off := 34) (tgt := 119) (by decide +kernel) (by decide) (fun hc => ?_) (fun hc => ?_)
  · have h := h.1 hc
    refine EvX.blk (pc' := 122) [(.iload_n 3, 0, 0), (.iload 6, 0, 0)] (by decide +kernel) trivial ?_
    show Ev (d + 1) M_Mo_parts 0 0 122 [(2, v0), (0, v1), (0, v2), (0, v3), (0, v4), (0, v5), (0, v6), (0, v7)] [(0, v6), (0, v3)] kd m (zqI kd q)
    refine EvX.if_le (off := 7) (tgt := 129) (by decide +kernel) (by decide) (fun hc => ?_) (fun hc => ?_)
    · have h := h.1 hc
      refine EvX.blk (pc' := 130) [(.iconst 0, 0, 0)] (by decide +kernel) trivial ?_
      show Ev (d + 1) M_Mo_parts 0 0 130 [(2, v0), (0, v1), (0, v2), (0, v3), (0, v4), (0, v5), (0, v6), (0, v7)] [(0, 0), (0, v3)] kd m (zqI kd q)
      exact EvX.weak (ls2 := [(2, v0), (0, v1), (0, v2), zJ, (0, v4), (0, v5), (0, v6), zJ]) (zwk_of ⟨Or.inr rfl, Or.inr rfl, Or.inr rfl, Or.inl rfl, Or.inr rfl, Or.inr rfl, Or.inr rfl, Or.inl rfl, trivial⟩) h
    · have h := h.2 hc
      refine EvX.blk (pc' := 126) [(.iconst 1, 0, 0)] (by decide +kernel) trivial ?_
      show Ev (d + 1) M_Mo_parts 0 0 126 [(2, v0), (0, v1), (0, v2), (0, v3), (0, v4), (0, v5), (0, v6), (0, v7)] [(0, 1), (0, v3)] kd m (zqI kd q)
      refine EvX.goto (off := 4) (tgt := 130) (by decide +kernel) (by decide) ?_
      exact EvX.weak (ls2 := [(2, v0), (0, v1), (0, v2), zJ, (0, v4), (0, v5), (0, v6), zJ]) (zwk_of ⟨Or.inr rfl, Or.inr rfl, Or.inr rfl, Or.inl rfl, Or.inr rfl, Or.inr rfl, Or.inr rfl, Or.inl rfl, trivial⟩) h
  · have h := h.2 hc
    obtain ⟨o1, o2, h⟩ := h
    refine EvX.blk (pc' := 99) [(.iload 6, 0, 0), (.aload_n 0, 0, 0), (.getfield 42, 8, 17), (.iload 7, 0, 0), (.iaload, 0, 0), (.iload 5, 0, 0)] (by decide +kernel) ⟨g_Mo_42, trivial⟩ ⟨o1, o2, ?_⟩
    show Ev (d + 1) M_Mo_parts 0 0 99 [(2, v0), (0, v1), (0, v2), (0, v3), (0, v4), (0, v5), (0, v6), (0, v7)] [(0, v5), (0, m (m v0 17) v7), (0, v6)] kd m (zqI kd q)
    refine EvX.icmp_ne (off := 7) (tgt := 106) (by decide +kernel) (by decide) (fun hc => ?_) (fun hc => ?_)
    · have h := h.1 hc
      refine EvX.blk (pc' := 107) [(.iconst 0, 0, 0)] (by decide +kernel) trivial ?_
      show Ev (d + 1) M_Mo_parts 0 0 107 [(2, v0), (0, v1), (0, v2), (0, v3), (0, v4), (0, v5), (0, v6), (0, v7)] [(0, 0), (0, v6)] kd m (zqI kd q)
      obtain ⟨q1, hq, h⟩ := h
      refine EvX.callS (mc := 0) (ms := 0) (as := [(0, 0)]) (st := [(0, v6)]) (by decide +kernel) l_Mo_204 k_Mo_truth s_Mo_truth a_Mo_truth (by decide) (Nat.le_of_ble_eq_true rfl) hq (fun r kd1 m3 hr => ?_)
      obtain ⟨x2, rfl, hk, hr⟩ := hr
      subst kd1
      have h := h x2 m3 hr
      show Ev (d + 1) M_Mo_parts 0 0 110 [(2, v0), (0, v1), (0, v2), (0, v3), (0, v4), (0, v5), (0, v6), (0, v7)] [(0, x2), (0, v6)] kd m3 (zqI kd q)
      refine EvX.blk (pc' := 116) [(.iadd, 0, 0), (.istore 6, 0, 0), (.iinc 7 1, 0, 0)] (by decide +kernel) trivial ?_
      show Ev (d + 1) M_Mo_parts 0 0 116 [(2, v0), (0, v1), (0, v2), (0, v3), (0, v4), (0, v5), (0, iw (v6 + x2)), (0, iw (v7 + 1))] [] kd m3 (zqI kd q)
      refine EvX.goto (off := (-34)) (tgt := 82) (by decide +kernel) (by decide) ?_
      exact h
    · have h := h.2 hc
      refine EvX.blk (pc' := 103) [(.iconst 1, 0, 0)] (by decide +kernel) trivial ?_
      show Ev (d + 1) M_Mo_parts 0 0 103 [(2, v0), (0, v1), (0, v2), (0, v3), (0, v4), (0, v5), (0, v6), (0, v7)] [(0, 1), (0, v6)] kd m (zqI kd q)
      refine EvX.goto (off := 4) (tgt := 107) (by decide +kernel) (by decide) ?_
      obtain ⟨q4, hq, h⟩ := h
      refine EvX.callS (mc := 0) (ms := 0) (as := [(0, 1)]) (st := [(0, v6)]) (by decide +kernel) l_Mo_204 k_Mo_truth s_Mo_truth a_Mo_truth (by decide) (Nat.le_of_ble_eq_true rfl) hq (fun r kd1 m6 hr => ?_)
      obtain ⟨x5, rfl, hk, hr⟩ := hr
      subst kd1
      have h := h x5 m6 hr
      show Ev (d + 1) M_Mo_parts 0 0 110 [(2, v0), (0, v1), (0, v2), (0, v3), (0, v4), (0, v5), (0, v6), (0, v7)] [(0, x5), (0, v6)] kd m6 (zqI kd q)
      refine EvX.blk (pc' := 116) [(.iadd, 0, 0), (.istore 6, 0, 0), (.iinc 7 1, 0, 0)] (by decide +kernel) trivial ?_
      show Ev (d + 1) M_Mo_parts 0 0 116 [(2, v0), (0, v1), (0, v2), (0, v3), (0, v4), (0, v5), (0, iw (v6 + x5)), (0, iw (v7 + 1))] [] kd m6 (zqI kd q)
      refine EvX.goto (off := (-34)) (tgt := 82) (by decide +kernel) (by decide) ?_
      exact h
set_option maxRecDepth 20000 in
set_option maxHeartbeats 1000000 in
theorem T_Mo_parts_130 {d : Nat} {kd : ZK} {m : ZM} {q : Int → ZM → Prop} {v0 v1 v2 v4 v5 v6 s0 s1 : Int} (h : (∃ q1, CtI d M_Mo_truth [(0, s1)] kd m q1 ∧ ∀ x2 m3, q1 x2 m3 → (Ev (d + 1) M_Mo_parts 0 0 70 [(2, v0), (0, v1), (0, v2), (0, iw (s0 + x2)), (0, zmax v4 v6), (0, iw (v5 + 1)), zJ, zJ] [] kd m3 (zqI kd q)))) : Ev (d + 1) M_Mo_parts 0 0 130 [(2, v0), (0, v1), (0, v2), zJ, (0, v4), (0, v5), (0, v6), zJ] [(0, s1), (0, s0)] kd m (zqI kd q) := by
  obtain ⟨q1, hq, h⟩ := h
  refine EvX.callS (mc := 0) (ms := 0) (as := [(0, s1)]) (st := [(0, s0)]) (by decide +kernel) l_Mo_204 k_Mo_truth s_Mo_truth a_Mo_truth (by decide) (Nat.le_of_ble_eq_true rfl) hq (fun r kd1 m3 hr => ?_)
  obtain ⟨x2, rfl, hk, hr⟩ := hr
  subst kd1
  have h := h x2 m3 hr
  show Ev (d + 1) M_Mo_parts 0 0 133 [(2, v0), (0, v1), (0, v2), zJ, (0, v4), (0, v5), (0, v6), zJ] [(0, x2), (0, s0)] kd m3 (zqI kd q)
  refine EvX.blk (pc' := 139) [(.iadd, 0, 0), (.istore_n 3, 0, 0), (.iload 4, 0, 0), (.iload 6, 0, 0)] (by decide +kernel) trivial ?_
  show Ev (d + 1) M_Mo_parts 0 0 139 [(2, v0), (0, v1), (0, v2), (0, iw (s0 + x2)), (0, v4), (0, v5), (0, v6), zJ] [(0, v6), (0, v4)] kd m3 (zqI kd q)
  refine EvX.mmax' (by decide +kernel) y_Mo_253 (Nat.le_of_ble_eq_true rfl) ?_
  show Ev (d + 1) M_Mo_parts 0 0 142 [(2, v0), (0, v1), (0, v2), (0, iw (s0 + x2)), (0, v4), (0, v5), (0, v6), zJ] [(0, zmax v4 v6)] kd m3 (zqI kd q)
  refine EvX.blk (pc' := 147) [(.istore 4, 0, 0), (.iinc 5 1, 0, 0)] (by decide +kernel) trivial ?_
  show Ev (d + 1) M_Mo_parts 0 0 147 [(2, v0), (0, v1), (0, v2), (0, iw (s0 + x2)), (0, zmax v4 v6), (0, iw (v5 + 1)), (0, v6), zJ] [] kd m3 (zqI kd q)
  refine EvX.goto (off := (-77)) (tgt := 70) (by decide +kernel) (by decide) ?_
  exact EvX.weak (ls2 := [(2, v0), (0, v1), (0, v2), (0, iw (s0 + x2)), (0, zmax v4 v6), (0, iw (v5 + 1)), zJ, zJ]) (zwk_of ⟨Or.inr rfl, Or.inr rfl, Or.inr rfl, Or.inr rfl, Or.inr rfl, Or.inr rfl, Or.inl rfl, Or.inl rfl, trivial⟩) h
set_option maxRecDepth 20000 in
set_option maxHeartbeats 1000000 in
theorem T_Mo_signOf_0 {d : Nat} {kd : ZK} {m : ZM} {q : Int → ZM → Prop} {v0 v1 v2 : Int} (h : (zobj kd v0 8 ∧ ∃ q1, CtI d M_Mo_isParity [(2, v0), (0, v1), (0, v2), (0, 0)] kd m q1 ∧ ∀ x2 m3, q1 x2 m3 → ((x2 = 0 → (zobj kd v0 8 ∧ ∃ q4, CtI d M_Mo_isParity [(2, v0), (0, v1), (0, v2), (0, 1)] kd m3 q4 ∧ ∀ x5 m6, q4 x5 m6 → ((x5 = 0 → q 0 m6) ∧ (¬ x5 = 0 → q (-1) m6)))) ∧ (¬ x2 = 0 → q 1 m3)))) : Ev (d + 1) M_Mo_signOf 0 0 0 [(2, v0), (0, v1), (0, v2)] [] kd m (zqI kd q) := by
  refine EvX.blk (pc' := 4) [(.aload_n 0, 0, 0), (.iload_n 1, 0, 0), (.iload_n 2, 0, 0), (.iconst 0, 0, 0)] (by decide +kernel) trivial ?_
  show Ev (d + 1) M_Mo_signOf 0 0 4 [(2, v0), (0, v1), (0, v2)] [(0, 0), (0, v2), (0, v1), (2, v0)] kd m (zqI kd q)
  obtain ⟨ov, h⟩ := h
  obtain ⟨q1, hq, h⟩ := h
  refine EvX.callV (c := 8) (mc := 0) (ms := 0) (as := [(0, v1), (0, v2), (0, 0)]) (st := []) (by decide +kernel) l_Mo_200 k_Mo_isParity v_Mo_isParity a_Mo_isParity (by decide) (Nat.le_of_ble_eq_true rfl) rfl ov hq (fun r kd1 m3 hr => ?_)
  obtain ⟨x2, rfl, hk, hr⟩ := hr
  subst kd1
  have h := h x2 m3 hr
  show Ev (d + 1) M_Mo_signOf 0 0 7 [(2, v0), (0, v1), (0, v2)] [(0, x2)] kd m3 (zqI kd q)
  refine EvX.if_eq (off := 7) (tgt := 14) (by decide +kernel) (by decide) (fun hc => ?_) (fun hc => ?_)
  · have h := h.1 hc
    refine EvX.blk (pc' := 18) [(.aload_n 0, 0, 0), (.iload_n 1, 0, 0), (.iload_n 2, 0, 0), (.iconst 1, 0, 0)] (by decide +kernel) trivial ?_
    show Ev (d + 1) M_Mo_signOf 0 0 18 [(2, v0), (0, v1), (0, v2)] [(0, 1), (0, v2), (0, v1), (2, v0)] kd m3 (zqI kd q)
    obtain ⟨ov, h⟩ := h
    obtain ⟨q4, hq, h⟩ := h
    refine EvX.callV (c := 8) (mc := 0) (ms := 0) (as := [(0, v1), (0, v2), (0, 1)]) (st := []) (by decide +kernel) l_Mo_200 k_Mo_isParity v_Mo_isParity a_Mo_isParity (by decide) (Nat.le_of_ble_eq_true rfl) rfl ov hq (fun r kd1 m6 hr => ?_)
    obtain ⟨x5, rfl, hk, hr⟩ := hr
    subst kd1
    have h := h x5 m6 hr
    show Ev (d + 1) M_Mo_signOf 0 0 21 [(2, v0), (0, v1), (0, v2)] [(0, x5)] kd m6 (zqI kd q)
    refine EvX.if_eq (off := 7) (tgt := 28) (by decide +kernel) (by decide) (fun hc => ?_) (fun hc => ?_)
    · have h := h.1 hc
      refine EvX.blk (pc' := 29) [(.iconst 0, 0, 0)] (by decide +kernel) trivial ?_
      show Ev (d + 1) M_Mo_signOf 0 0 29 [(2, v0), (0, v1), (0, v2)] [(0, 0)] kd m6 (zqI kd q)
      exact EvX.ret (r := (0, 0)) (by decide +kernel) rfl ⟨_, rfl, rfl, h⟩
    · have h := h.2 hc
      refine EvX.blk (pc' := 25) [(.iconst (-1), 0, 0)] (by decide +kernel) trivial ?_
      show Ev (d + 1) M_Mo_signOf 0 0 25 [(2, v0), (0, v1), (0, v2)] [(0, (-1))] kd m6 (zqI kd q)
      refine EvX.goto (off := 4) (tgt := 29) (by decide +kernel) (by decide) ?_
      exact EvX.ret (r := (0, (-1))) (by decide +kernel) rfl ⟨_, rfl, rfl, h⟩
  · have h := h.2 hc
    refine EvX.blk (pc' := 11) [(.iconst 1, 0, 0)] (by decide +kernel) trivial ?_
    show Ev (d + 1) M_Mo_signOf 0 0 11 [(2, v0), (0, v1), (0, v2)] [(0, 1)] kd m3 (zqI kd q)
    refine EvX.goto (off := 18) (tgt := 29) (by decide +kernel) (by decide) ?_
    exact EvX.ret (r := (0, 1)) (by decide +kernel) rfl ⟨_, rfl, rfl, h⟩
theorem S_Mo_signOf {d : Nat} {kd : ZK} {m : ZM} {q : Int → ZM → Prop} {v0 v1 v2 : Int} (h : (zobj kd v0 8 ∧ ∃ q1, CtI d M_Mo_isParity [(2, v0), (0, v1), (0, v2), (0, 0)] kd m q1 ∧ ∀ x2 m3, q1 x2 m3 → ((x2 = 0 → (zobj kd v0 8 ∧ ∃ q4, CtI d M_Mo_isParity [(2, v0), (0, v1), (0, v2), (0, 1)] kd m3 q4 ∧ ∀ x5 m6, q4 x5 m6 → ((x5 = 0 → q 0 m6) ∧ (¬ x5 = 0 → q (-1) m6)))) ∧ (¬ x2 = 0 → q 1 m3)))) : CtI (d + 1) M_Mo_signOf [(2, v0), (0, v1), (0, v2)] kd m q :=
  Ct.start k_Mo_signOf (Nat.le_of_ble_eq_true rfl) ⟨1, Or.inr (Or.inl ⟨rfl, rfl⟩)⟩ (T_Mo_signOf_0 h)
set_option maxRecDepth 20000 in
set_option maxHeartbeats 1000000 in
theorem T_Mo_sign_2_0 {d : Nat} {kd : ZK} {m : ZM} {q : Int → ZM → Prop} {v0 v1 v2 : Int} (h : (zobj kd v0 8 ∧ ∃ q1, CtI d M_Mo_areTwo [(2, v0), (0, v1), (0, v2)] kd m q1 ∧ ∀ x2 m3, q1 x2 m3 → ((x2 = 0 → q (-2) m3) ∧ (¬ x2 = 0 → (zobj kd v0 8 ∧ ∃ q4, CtI d M_Mo_signOf [(2, v0), (0, v1), (0, v2)] kd m3 q4 ∧ ∀ x5 m6, q4 x5 m6 → q x5 m6))))) : Ev (d + 1) M_Mo_sign_2 0 0 0 [(2, v0), (0, v1), (0, v2)] [] kd m (zqI kd q) := by
  refine EvX.blk (pc' := 3) [(.aload_n 0, 0, 0), (.iload_n 1, 0, 0), (.iload_n 2, 0, 0)] (by decide +kernel) trivial ?_
  show Ev (d + 1) M_Mo_sign_2 0 0 3 [(2, v0), (0, v1), (0, v2)] [(0, v2), (0, v1), (2, v0)] kd m (zqI kd q)
  obtain ⟨ov, h⟩ := h
  obtain ⟨q1, hq, h⟩ := h
  refine EvX.callV (c := 8) (mc := 0) (ms := 0) (as := [(0, v1), (0, v2)]) (st := []) (by decide +kernel) l_Mo_174 k_Mo_areTwo v_Mo_areTwo a_Mo_areTwo (by decide) (Nat.le_of_ble_eq_true rfl) rfl ov hq (fun r kd1 m3 hr => ?_)
  obtain ⟨x2, rfl, hk, hr⟩ := hr
  subst kd1
  have h := h x2 m3 hr
  show Ev (d + 1) M_Mo_sign_2 0 0 6 [(2, v0), (0, v1), (0, v2)] [(0, x2)] kd m3 (zqI kd q)
  refine EvX.if_eq (off := 12) (tgt := 18) (by decide +kernel) (by decide) (fun hc => ?_) (fun hc => ?_)
  · have h := h.1 hc
    refine EvX.blk (pc' := 20) [(.bipush (-2), 0, 0)] (by decide +kernel) trivial ?_
    show Ev (d + 1) M_Mo_sign_2 0 0 20 [(2, v0), (0, v1), (0, v2)] [(0, (-2))] kd m3 (zqI kd q)
    exact EvX.ret (r := (0, (-2))) (by decide +kernel) rfl ⟨_, rfl, rfl, h⟩
  · have h := h.2 hc
    refine EvX.blk (pc' := 12) [(.aload_n 0, 0, 0), (.iload_n 1, 0, 0), (.iload_n 2, 0, 0)] (by decide +kernel) trivial ?_
    show Ev (d + 1) M_Mo_sign_2 0 0 12 [(2, v0), (0, v1), (0, v2)] [(0, v2), (0, v1), (2, v0)] kd m3 (zqI kd q)
    obtain ⟨ov, h⟩ := h
    obtain ⟨q4, hq, h⟩ := h
    refine EvX.callV (c := 8) (mc := 0) (ms := 0) (as := [(0, v1), (0, v2)]) (st := []) (by decide +kernel) l_Mo_329 k_Mo_signOf v_Mo_signOf a_Mo_signOf (by decide) (Nat.le_of_ble_eq_true rfl) rfl ov hq (fun r kd1 m6 hr => ?_)
    obtain ⟨x5, rfl, hk, hr⟩ := hr
    subst kd1
    have h := h x5 m6 hr
    show Ev (d + 1) M_Mo_sign_2 0 0 15 [(2, v0), (0, v1), (0, v2)] [(0, x5)] kd m6 (zqI kd q)
    refine EvX.goto (off := 5) (tgt := 20) (by decide +kernel) (by decide) ?_
    exact EvX.ret (r := (0, x5)) (by decide +kernel) rfl ⟨_, rfl, rfl, h⟩
theorem S_Mo_sign_2 {d : Nat} {kd : ZK} {m : ZM} {q : Int → ZM → Prop} {v0 v1 v2 : Int} (h : (zobj kd v0 8 ∧ ∃ q1, CtI d M_Mo_areTwo [(2, v0), (0, v1), (0, v2)] kd m q1 ∧ ∀ x2 m3, q1 x2 m3 → ((x2 = 0 → q (-2) m3) ∧ (¬ x2 = 0 → (zobj kd v0 8 ∧ ∃ q4, CtI d M_Mo_signOf [(2, v0), (0, v1), (0, v2)] kd m3 q4 ∧ ∀ x5 m6, q4 x5 m6 → q x5 m6))))) : CtI (d + 1) M_Mo_sign_2 [(2, v0), (0, v1), (0, v2)] kd m q :=
  Ct.start k_Mo_sign_2 (Nat.le_of_ble_eq_true rfl) ⟨1, Or.inr (Or.inl ⟨rfl, rfl⟩)⟩ (T_Mo_sign_2_0 h)
set_option maxRecDepth 20000 in
set_option maxHeartbeats 1000000 in
theorem T_Mo_isParityGame_0 {d : Nat} {kd : ZK} {m : ZM} {q : Int → ZM → Prop} {v0 : Int} (h : (zobj kd v0 8 ∧ ∃ q1, CtI d M_Mo_answers [(2, v0), (0, 0)] kd m q1 ∧ ∀ x2 m3, q1 x2 m3 → ((x2 ≠ 2 → (Ev (d + 1) M_Mo_isParityGame 0 0 26 [(2, v0), (0, 0), (0, 0), zJ] [] kd m3 (zqI kd q))) ∧ (¬ x2 ≠ 2 → (zobj kd v0 8 ∧ ∃ q4, CtI d M_Mo_answers [(2, v0), (0, 1)] kd m3 q4 ∧ ∀ x5 m6, q4 x5 m6 → ((x5 ≠ 2 → (Ev (d + 1) M_Mo_isParityGame 0 0 26 [(2, v0), (0, 0), (0, 0), zJ] [] kd m6 (zqI kd q))) ∧ (¬ x5 ≠ 2 → (Ev (d + 1) M_Mo_isParityGame 0 0 26 [(2, v0), (0, 1), (0, 0), zJ] [] kd m6 (zqI kd q))))))))) : Ev (d + 1) M_Mo_isParityGame 0 0 0 [(2, v0), zJ, zJ, zJ] [] kd m (zqI kd q) := by
  refine EvX.blk (pc' := 2) [(.aload_n 0, 0, 0), (.iconst 0, 0, 0)] (by decide +kernel) trivial ?_
  show Ev (d + 1) M_Mo_isParityGame 0 0 2 [(2, v0), zJ, zJ, zJ] [(0, 0), (2, v0)] kd m (zqI kd q)
  obtain ⟨ov, h⟩ := h
  obtain ⟨q1, hq, h⟩ := h
  refine EvX.callV (c := 8) (mc := 0) (ms := 0) (as := [(0, 0)]) (st := []) (by decide +kernel) l_Mo_167 k_Mo_answers v_Mo_answers a_Mo_answers (by decide) (Nat.le_of_ble_eq_true rfl) rfl ov hq (fun r kd1 m3 hr => ?_)
  obtain ⟨x2, rfl, hk, hr⟩ := hr
  subst kd1
  have h := h x2 m3 hr
  show Ev (d + 1) M_Mo_isParityGame 0 0 5 [(2, v0), zJ, zJ, zJ] [(0, x2)] kd m3 (zqI kd q)
  refine EvX.blk (pc' := 6) [(.iconst 2, 0, 0)] (by decide +kernel) trivial ?_
  show Ev (d + 1) M_Mo_isParityGame 0 0 6 [(2, v0), zJ, zJ, zJ] [(0, 2), (0, x2)] kd m3 (zqI kd q)
  refine EvX.icmp_ne (off := 16) (tgt := 22) (by decide +kernel) (by decide) (fun hc => ?_) (fun hc => ?_)
  · have h := h.1 hc
    refine EvX.blk (pc' := 26) [(.iconst 0, 0, 0), (.istore_n 1, 0, 0), (.iconst 0, 0, 0), (.istore_n 2, 0, 0)] (by decide +kernel) trivial ?_
    show Ev (d + 1) M_Mo_isParityGame 0 0 26 [(2, v0), (0, 0), (0, 0), zJ] [] kd m3 (zqI kd q)
    exact h
  · have h := h.2 hc
    refine EvX.blk (pc' := 11) [(.aload_n 0, 0, 0), (.iconst 1, 0, 0)] (by decide +kernel) trivial ?_
    show Ev (d + 1) M_Mo_isParityGame 0 0 11 [(2, v0), zJ, zJ, zJ] [(0, 1), (2, v0)] kd m3 (zqI kd q)
    obtain ⟨ov, h⟩ := h
    obtain ⟨q4, hq, h⟩ := h
    refine EvX.callV (c := 8) (mc := 0) (ms := 0) (as := [(0, 1)]) (st := []) (by decide +kernel) l_Mo_167 k_Mo_answers v_Mo_answers a_Mo_answers (by decide) (Nat.le_of_ble_eq_true rfl) rfl ov hq (fun r kd1 m6 hr => ?_)
    obtain ⟨x5, rfl, hk, hr⟩ := hr
    subst kd1
    have h := h x5 m6 hr
    show Ev (d + 1) M_Mo_isParityGame 0 0 14 [(2, v0), zJ, zJ, zJ] [(0, x5)] kd m6 (zqI kd q)
    refine EvX.blk (pc' := 15) [(.iconst 2, 0, 0)] (by decide +kernel) trivial ?_
    show Ev (d + 1) M_Mo_isParityGame 0 0 15 [(2, v0), zJ, zJ, zJ] [(0, 2), (0, x5)] kd m6 (zqI kd q)
    refine EvX.icmp_ne (off := 7) (tgt := 22) (by decide +kernel) (by decide) (fun hc => ?_) (fun hc => ?_)
    · have h := h.1 hc
      refine EvX.blk (pc' := 26) [(.iconst 0, 0, 0), (.istore_n 1, 0, 0), (.iconst 0, 0, 0), (.istore_n 2, 0, 0)] (by decide +kernel) trivial ?_
      show Ev (d + 1) M_Mo_isParityGame 0 0 26 [(2, v0), (0, 0), (0, 0), zJ] [] kd m6 (zqI kd q)
      exact h
    · have h := h.2 hc
      refine EvX.blk (pc' := 19) [(.iconst 1, 0, 0)] (by decide +kernel) trivial ?_
      show Ev (d + 1) M_Mo_isParityGame 0 0 19 [(2, v0), zJ, zJ, zJ] [(0, 1)] kd m6 (zqI kd q)
      refine EvX.goto (off := 4) (tgt := 23) (by decide +kernel) (by decide) ?_
      refine EvX.blk (pc' := 26) [(.istore_n 1, 0, 0), (.iconst 0, 0, 0), (.istore_n 2, 0, 0)] (by decide +kernel) trivial ?_
      show Ev (d + 1) M_Mo_isParityGame 0 0 26 [(2, v0), (0, 1), (0, 0), zJ] [] kd m6 (zqI kd q)
      exact h
theorem S_Mo_isParityGame {d : Nat} {kd : ZK} {m : ZM} {q : Int → ZM → Prop} {v0 : Int} (h : (zobj kd v0 8 ∧ ∃ q1, CtI d M_Mo_answers [(2, v0), (0, 0)] kd m q1 ∧ ∀ x2 m3, q1 x2 m3 → ((x2 ≠ 2 → (Ev (d + 1) M_Mo_isParityGame 0 0 26 [(2, v0), (0, 0), (0, 0), zJ] [] kd m3 (zqI kd q))) ∧ (¬ x2 ≠ 2 → (zobj kd v0 8 ∧ ∃ q4, CtI d M_Mo_answers [(2, v0), (0, 1)] kd m3 q4 ∧ ∀ x5 m6, q4 x5 m6 → ((x5 ≠ 2 → (Ev (d + 1) M_Mo_isParityGame 0 0 26 [(2, v0), (0, 0), (0, 0), zJ] [] kd m6 (zqI kd q))) ∧ (¬ x5 ≠ 2 → (Ev (d + 1) M_Mo_isParityGame 0 0 26 [(2, v0), (0, 1), (0, 0), zJ] [] kd m6 (zqI kd q))))))))) : CtI (d + 1) M_Mo_isParityGame [(2, v0)] kd m q :=
  Ct.start k_Mo_isParityGame (Nat.le_of_ble_eq_true rfl) ⟨2, Or.inr (Or.inr (Or.inl ⟨rfl, rfl⟩))⟩ (T_Mo_isParityGame_0 h)
set_option maxRecDepth 20000 in
set_option maxHeartbeats 1000000 in
theorem T_Mo_isParityGame_26 {d : Nat} {kd : ZK} {m : ZM} {q : Int → ZM → Prop} {v0 v1 v2 : Int} (h : (zobj kd v0 8 ∧ ∃ q1, CtI d M_Mo_questions [(2, v0), (0, 0)] kd m q1 ∧ ∀ x2 m3, q1 x2 m3 → ((x2 ≤ v2 → ((0 ≤ v1 ∧ v1 ≤ 1) ∧ q v1 m3)) ∧ (¬ x2 ≤ v2 → (Ev (d + 1) M_Mo_isParityGame 0 0 37 [(2, v0), (0, v1), (0, v2), (0, 0)] [] kd m3 (zqI kd q)))))) : Ev (d + 1) M_Mo_isParityGame 0 0 26 [(2, v0), (0, v1), (0, v2), zJ] [] kd m (zqI kd q) := by
  refine EvX.blk (pc' := 29) [(.iload_n 2, 0, 0), (.aload_n 0, 0, 0), (.iconst 0, 0, 0)] (by decide +kernel) trivial ?_
  show Ev (d + 1) M_Mo_isParityGame 0 0 29 [(2, v0), (0, v1), (0, v2), zJ] [(0, 0), (2, v0), (0, v2)] kd m (zqI kd q)
  obtain ⟨ov, h⟩ := h
  obtain ⟨q1, hq, h⟩ := h
  refine EvX.callV (c := 8) (mc := 0) (ms := 0) (as := [(0, 0)]) (st := [(0, v2)]) (by decide +kernel) l_Mo_163 k_Mo_questions v_Mo_questions a_Mo_questions (by decide) (Nat.le_of_ble_eq_true rfl) rfl ov hq (fun r kd1 m3 hr => ?_)
  obtain ⟨x2, rfl, hk, hr⟩ := hr
  subst kd1
  have h := h x2 m3 hr
  show Ev (d + 1) M_Mo_isParityGame 0 0 32 [(2, v0), (0, v1), (0, v2), zJ] [(0, x2), (0, v2)] kd m3 (zqI kd q)
  refine EvX.icmp_ge (off := 54) (tgt := 86) (by decide +kernel) (by decide) (fun hc => ?_) (fun hc => ?_)
  · have h := h.1 hc
    refine EvX.blk (pc' := 87) [(.iload_n 1, 0, 0)] (by decide +kernel) trivial ?_
    show Ev (d + 1) M_Mo_isParityGame 0 0 87 [(2, v0), (0, v1), (0, v2), zJ] [(0, v1)] kd m3 (zqI kd q)
    exact EvX.ret (r := (0, v1)) (by decide +kernel) ⟨rfl, h.1.1, h.1.2⟩ ⟨_, rfl, rfl, h.2⟩
  · have h := h.2 hc
    refine EvX.blk (pc' := 37) [(.iconst 0, 0, 0), (.istore_n 3, 0, 0)] (by decide +kernel) trivial ?_
    show Ev (d + 1) M_Mo_isParityGame 0 0 37 [(2, v0), (0, v1), (0, v2), (0, 0)] [] kd m3 (zqI kd q)
    exact h
set_option maxRecDepth 20000 in
set_option maxHeartbeats 1000000 in
theorem T_Mo_isParityGame_37 {d : Nat} {kd : ZK} {m : ZM} {q : Int → ZM → Prop} {v0 v1 v2 v3 : Int} (h : (zobj kd v0 8 ∧ ∃ q1, CtI d M_Mo_questions [(2, v0), (0, 1)] kd m q1 ∧ ∀ x2 m3, q1 x2 m3 → ((x2 ≤ v3 → (Ev (d + 1) M_Mo_isParityGame 0 0 26 [(2, v0), (0, v1), (0, iw (v2 + 1)), zJ] [] kd m3 (zqI kd q))) ∧ (¬ x2 ≤ v3 → ((v1 = 0 → (Ev (d + 1) M_Mo_isParityGame 0 0 37 [(2, v0), (0, 0), (0, v2), (0, iw (v3 + 1))] [] kd m3 (zqI kd q))) ∧ (¬ v1 = 0 → (zobj kd v0 8 ∧ ∃ q4, CtI d M_Mo_weightOf [(2, v0), (0, v2), (0, v3)] kd m3 q4 ∧ ∀ x5 m6, q4 x5 m6 → ((x5 = 0 → (Ev (d + 1) M_Mo_isParityGame 0 0 37 [(2, v0), (0, 1), (0, v2), (0, iw (v3 + 1))] [] kd m6 (zqI kd q))) ∧ (¬ x5 = 0 → (zobj kd v0 8 ∧ ∃ q7, CtI d M_Mo_signOf [(2, v0), (0, v2), (0, v3)] kd m6 q7 ∧ ∀ x8 m9, q7 x8 m9 → ((x8 = 0 → (Ev (d + 1) M_Mo_isParityGame 0 0 37 [(2, v0), (0, 0), (0, v2), (0, iw (v3 + 1))] [] kd m9 (zqI kd q))) ∧ (¬ x8 = 0 → (Ev (d + 1) M_Mo_isParityGame 0 0 37 [(2, v0), (0, 1), (0, v2), (0, iw (v3 + 1))] [] kd m9 (zqI kd q)))))))))))))) : Ev (d + 1) M_Mo_isParityGame 0 0 37 [(2, v0), (0, v1), (0, v2), (0, v3)] [] kd m (zqI kd q) := by
  refine EvX.blk (pc' := 40) [(.iload_n 3, 0, 0), (.aload_n 0, 0, 0), (.iconst 1, 0, 0)] (by decide +kernel) trivial ?_
  show Ev (d + 1) M_Mo_isParityGame 0 0 40 [(2, v0), (0, v1), (0, v2), (0, v3)] [(0, 1), (2, v0), (0, v3)] kd m (zqI kd q)
  obtain ⟨ov, h⟩ := h
  obtain ⟨q1, hq, h⟩ := h
  refine EvX.callV (c := 8) (mc := 0) (ms := 0) (as := [(0, 1)]) (st := [(0, v3)]) (by decide +kernel) l_Mo_163 k_Mo_questions v_Mo_questions a_Mo_questions (by decide) (Nat.le_of_ble_eq_true rfl) rfl ov hq (fun r kd1 m3 hr => ?_)
  obtain ⟨x2, rfl, hk, hr⟩ := hr
  subst kd1
  have h := h x2 m3 hr
  show Ev (d + 1) M_Mo_isParityGame 0 0 43 [(2, v0), (0, v1), (0, v2), (0, v3)] [(0, x2), (0, v3)] kd m3 (zqI kd q)
  refine EvX.icmp_ge (off := 37) (tgt := 80) (by decide +kernel) (by decide) (fun hc => ?_) (fun hc => ?_)
  · have h := h.1 hc
    refine EvX.blk (pc' := 83) [(.iinc 2 1, 0, 0)] (by decide +kernel) trivial ?_
    show Ev (d + 1) M_Mo_isParityGame 0 0 83 [(2, v0), (0, v1), (0, iw (v2 + 1)), (0, v3)] [] kd m3 (zqI kd q)
    refine EvX.goto (off := (-57)) (tgt := 26) (by decide +kernel) (by decide) ?_
    exact EvX.weak (ls2 := [(2, v0), (0, v1), (0, iw (v2 + 1)), zJ]) (zwk_of ⟨Or.inr rfl, Or.inr rfl, Or.inr rfl, Or.inl rfl, trivial⟩) h
  · have h := h.2 hc
    refine EvX.blk (pc' := 47) [(.iload_n 1, 0, 0)] (by decide +kernel) trivial ?_
    show Ev (d + 1) M_Mo_isParityGame 0 0 47 [(2, v0), (0, v1), (0, v2), (0, v3)] [(0, v1)] kd m3 (zqI kd q)
    refine EvX.if_eq (off := 25) (tgt := 72) (by decide +kernel) (by decide) (fun hc => ?_) (fun hc => ?_)
    · have h := h.1 hc
      refine EvX.blk (pc' := 77) [(.iconst 0, 0, 0), (.istore_n 1, 0, 0), (.iinc 3 1, 0, 0)] (by decide +kernel) trivial ?_
      show Ev (d + 1) M_Mo_isParityGame 0 0 77 [(2, v0), (0, 0), (0, v2), (0, iw (v3 + 1))] [] kd m3 (zqI kd q)
      refine EvX.goto (off := (-40)) (tgt := 37) (by decide +kernel) (by decide) ?_
      exact h
    · have h := h.2 hc
      refine EvX.blk (pc' := 53) [(.aload_n 0, 0, 0), (.iload_n 2, 0, 0), (.iload_n 3, 0, 0)] (by decide +kernel) trivial ?_
      show Ev (d + 1) M_Mo_isParityGame 0 0 53 [(2, v0), (0, v1), (0, v2), (0, v3)] [(0, v3), (0, v2), (2, v0)] kd m3 (zqI kd q)
      obtain ⟨ov, h⟩ := h
      obtain ⟨q4, hq, h⟩ := h
      refine EvX.callV (c := 8) (mc := 0) (ms := 0) (as := [(0, v2), (0, v3)]) (st := []) (by decide +kernel) l_Mo_180 k_Mo_weightOf v_Mo_weightOf a_Mo_weightOf (by decide) (Nat.le_of_ble_eq_true rfl) rfl ov hq (fun r kd1 m6 hr => ?_)
      obtain ⟨x5, rfl, hk, hr⟩ := hr
      subst kd1
      have h := h x5 m6 hr
      show Ev (d + 1) M_Mo_isParityGame 0 0 56 [(2, v0), (0, v1), (0, v2), (0, v3)] [(0, x5)] kd m6 (zqI kd q)
      refine EvX.if_eq (off := 12) (tgt := 68) (by decide +kernel) (by decide) (fun hc => ?_) (fun hc => ?_)
      · have h := h.1 hc
        refine EvX.blk (pc' := 69) [(.iconst 1, 0, 0)] (by decide +kernel) trivial ?_
        show Ev (d + 1) M_Mo_isParityGame 0 0 69 [(2, v0), (0, v1), (0, v2), (0, v3)] [(0, 1)] kd m6 (zqI kd q)
        refine EvX.goto (off := 4) (tgt := 73) (by decide +kernel) (by decide) ?_
        refine EvX.blk (pc' := 77) [(.istore_n 1, 0, 0), (.iinc 3 1, 0, 0)] (by decide +kernel) trivial ?_
        show Ev (d + 1) M_Mo_isParityGame 0 0 77 [(2, v0), (0, 1), (0, v2), (0, iw (v3 + 1))] [] kd m6 (zqI kd q)
        refine EvX.goto (off := (-40)) (tgt := 37) (by decide +kernel) (by decide) ?_
        exact h
      · have h := h.2 hc
        refine EvX.blk (pc' := 62) [(.aload_n 0, 0, 0), (.iload_n 2, 0, 0), (.iload_n 3, 0, 0)] (by decide +kernel) trivial ?_
        show Ev (d + 1) M_Mo_isParityGame 0 0 62 [(2, v0), (0, v1), (0, v2), (0, v3)] [(0, v3), (0, v2), (2, v0)] kd m6 (zqI kd q)
        obtain ⟨ov, h⟩ := h
        obtain ⟨q7, hq, h⟩ := h
        refine EvX.callV (c := 8) (mc := 0) (ms := 0) (as := [(0, v2), (0, v3)]) (st := []) (by decide +kernel) l_Mo_329 k_Mo_signOf v_Mo_signOf a_Mo_signOf (by decide) (Nat.le_of_ble_eq_true rfl) rfl ov hq (fun r kd1 m9 hr => ?_)
        obtain ⟨x8, rfl, hk, hr⟩ := hr
        subst kd1
        have h := h x8 m9 hr
        show Ev (d + 1) M_Mo_isParityGame 0 0 65 [(2, v0), (0, v1), (0, v2), (0, v3)] [(0, x8)] kd m9 (zqI kd q)
        refine EvX.if_eq (off := 7) (tgt := 72) (by decide +kernel) (by decide) (fun hc => ?_) (fun hc => ?_)
        · have h := h.1 hc
          refine EvX.blk (pc' := 77) [(.iconst 0, 0, 0), (.istore_n 1, 0, 0), (.iinc 3 1, 0, 0)] (by decide +kernel) trivial ?_
          show Ev (d + 1) M_Mo_isParityGame 0 0 77 [(2, v0), (0, 0), (0, v2), (0, iw (v3 + 1))] [] kd m9 (zqI kd q)
          refine EvX.goto (off := (-40)) (tgt := 37) (by decide +kernel) (by decide) ?_
          exact h
        · have h := h.2 hc
          refine EvX.blk (pc' := 69) [(.iconst 1, 0, 0)] (by decide +kernel) trivial ?_
          show Ev (d + 1) M_Mo_isParityGame 0 0 69 [(2, v0), (0, v1), (0, v2), (0, v3)] [(0, 1)] kd m9 (zqI kd q)
          refine EvX.goto (off := 4) (tgt := 73) (by decide +kernel) (by decide) ?_
          refine EvX.blk (pc' := 77) [(.istore_n 1, 0, 0), (.iinc 3 1, 0, 0)] (by decide +kernel) trivial ?_
          show Ev (d + 1) M_Mo_isParityGame 0 0 77 [(2, v0), (0, 1), (0, v2), (0, iw (v3 + 1))] [] kd m9 (zqI kd q)
          refine EvX.goto (off := (-40)) (tgt := 37) (by decide +kernel) (by decide) ?_
          exact h
