/-! TREES of ApartGamesModel, 1: by program -/
set_option maxRecDepth 20000 in
set_option maxHeartbeats 1000000 in
theorem T_Mo_in_0 {d : Nat} {kd : ZK} {m : ZM} {q : Int → ZM → Prop} {v0 v2 v4 : Int} (h : (((zcmp v0 v2) < 0 → q 0 m) ∧ (¬ (zcmp v0 v2) < 0 → ((0 < (zcmp v0 v4) → q 0 m) ∧ (¬ 0 < (zcmp v0 v4) → q 1 m))))) : Ev (d + 1) M_Mo_in 0 0 0 [(1, v0), zJ, (1, v2), zJ, (1, v4), zJ] [] kd m (zqI kd q) := by
  refine EvX.blk (pc' := 3) [(.lload_n 0, 0, 0), (.lload_n 2, 0, 0), (.lcmp, 0, 0)] (by decide +kernel) trivial ?_
  show Ev (d + 1) M_Mo_in 0 0 3 [(1, v0), zJ, (1, v2), zJ, (1, v4), zJ] [(0, zcmp v0 v2)] kd m (zqI kd q)
  refine EvX.if_lt (off := 14) (tgt := 17) (by decide +kernel) (by decide) (fun hc => ?_) (fun hc => ?_)
  · have h := h.1 hc
    refine EvX.blk (pc' := 18) [(.iconst 0, 0, 0)] (by decide +kernel) trivial ?_
    show Ev (d + 1) M_Mo_in 0 0 18 [(1, v0), zJ, (1, v2), zJ, (1, v4), zJ] [(0, 0)] kd m (zqI kd q)
    exact EvX.ret (r := (0, 0)) (by decide +kernel) ⟨rfl, by decide, by decide⟩ ⟨_, rfl, rfl, h⟩
  · have h := h.2 hc
    refine EvX.blk (pc' := 10) [(.lload_n 0, 0, 0), (.lload 4, 0, 0), (.lcmp, 0, 0)] (by decide +kernel) trivial ?_
    show Ev (d + 1) M_Mo_in 0 0 10 [(1, v0), zJ, (1, v2), zJ, (1, v4), zJ] [(0, zcmp v0 v4)] kd m (zqI kd q)
    refine EvX.if_gt (off := 7) (tgt := 17) (by decide +kernel) (by decide) (fun hc => ?_) (fun hc => ?_)
    · have h := h.1 hc
      refine EvX.blk (pc' := 18) [(.iconst 0, 0, 0)] (by decide +kernel) trivial ?_
      show Ev (d + 1) M_Mo_in 0 0 18 [(1, v0), zJ, (1, v2), zJ, (1, v4), zJ] [(0, 0)] kd m (zqI kd q)
      exact EvX.ret (r := (0, 0)) (by decide +kernel) ⟨rfl, by decide, by decide⟩ ⟨_, rfl, rfl, h⟩
    · have h := h.2 hc
      refine EvX.blk (pc' := 14) [(.iconst 1, 0, 0)] (by decide +kernel) trivial ?_
      show Ev (d + 1) M_Mo_in 0 0 14 [(1, v0), zJ, (1, v2), zJ, (1, v4), zJ] [(0, 1)] kd m (zqI kd q)
      refine EvX.goto (off := 4) (tgt := 18) (by decide +kernel) (by decide) ?_
      exact EvX.ret (r := (0, 1)) (by decide +kernel) ⟨rfl, by decide, by decide⟩ ⟨_, rfl, rfl, h⟩
theorem S_Mo_in {d : Nat} {kd : ZK} {m : ZM} {q : Int → ZM → Prop} {v0 v2 v4 : Int} (h : (((zcmp v0 v2) < 0 → q 0 m) ∧ (¬ (zcmp v0 v2) < 0 → ((0 < (zcmp v0 v4) → q 0 m) ∧ (¬ 0 < (zcmp v0 v4) → q 1 m))))) : CtI (d + 1) M_Mo_in [(1, v0), (1, v2), (1, v4)] kd m q :=
  Ct.start k_Mo_in (Nat.le_of_ble_eq_true rfl) ⟨2, Or.inr (Or.inr (Or.inl ⟨rfl, rfl⟩))⟩ (T_Mo_in_0 h)
set_option maxRecDepth 20000 in
set_option maxHeartbeats 1000000 in
theorem T_Mo_truth_0 {d : Nat} {kd : ZK} {m : ZM} {q : Int → ZM → Prop} {v0 : Int} (h : ((v0 = 0 → q 0 m) ∧ (¬ v0 = 0 → q 1 m))) : Ev (d + 1) M_Mo_truth 0 0 0 [(0, v0)] [] kd m (zqI kd q) := by
  refine EvX.blk (pc' := 1) [(.iload_n 0, 0, 0)] (by decide +kernel) trivial ?_
  show Ev (d + 1) M_Mo_truth 0 0 1 [(0, v0)] [(0, v0)] kd m (zqI kd q)
  refine EvX.if_eq (off := 7) (tgt := 8) (by decide +kernel) (by decide) (fun hc => ?_) (fun hc => ?_)
  · have h := h.1 hc
    refine EvX.blk (pc' := 9) [(.iconst 0, 0, 0)] (by decide +kernel) trivial ?_
    show Ev (d + 1) M_Mo_truth 0 0 9 [(0, v0)] [(0, 0)] kd m (zqI kd q)
    exact EvX.ret (r := (0, 0)) (by decide +kernel) rfl ⟨_, rfl, rfl, h⟩
  · have h := h.2 hc
    refine EvX.blk (pc' := 5) [(.iconst 1, 0, 0)] (by decide +kernel) trivial ?_
    show Ev (d + 1) M_Mo_truth 0 0 5 [(0, v0)] [(0, 1)] kd m (zqI kd q)
    refine EvX.goto (off := 4) (tgt := 9) (by decide +kernel) (by decide) ?_
    exact EvX.ret (r := (0, 1)) (by decide +kernel) rfl ⟨_, rfl, rfl, h⟩
theorem S_Mo_truth {d : Nat} {kd : ZK} {m : ZM} {q : Int → ZM → Prop} {v0 : Int} (h : ((v0 = 0 → q 0 m) ∧ (¬ v0 = 0 → q 1 m))) : CtI (d + 1) M_Mo_truth [(0, v0)] kd m q :=
  Ct.start k_Mo_truth (Nat.le_of_ble_eq_true rfl) ⟨1, Or.inr (Or.inl ⟨rfl, rfl⟩)⟩ (T_Mo_truth_0 h)
set_option maxRecDepth 20000 in
set_option maxHeartbeats 1000000 in
theorem T_Mo_moves_0 {d : Nat} {kd : ZK} {m : ZM} {q : ZM → Prop} {v0 v1 v2 v3 : Int} (h : (Ev (d + 1) M_Mo_moves 0 0 3 [(2, v0), (0, v1), (2, v2), (0, v3), (0, 0)] [] kd m (zqV kd q))) : Ev (d + 1) M_Mo_moves 0 0 0 [(2, v0), (0, v1), (2, v2), (0, v3), zJ] [] kd m (zqV kd q) := by
  refine EvX.blk (pc' := 3) [(.iconst 0, 0, 0), (.istore 4, 0, 0)] (by decide +kernel) trivial ?_
  show Ev (d + 1) M_Mo_moves 0 0 3 [(2, v0), (0, v1), (2, v2), (0, v3), (0, 0)] [] kd m (zqV kd q)
  exact h
theorem S_Mo_moves {d : Nat} {kd : ZK} {m : ZM} {q : ZM → Prop} {v0 v1 v2 v3 : Int} (h : (Ev (d + 1) M_Mo_moves 0 0 3 [(2, v0), (0, v1), (2, v2), (0, v3), (0, 0)] [] kd m (zqV kd q))) : CtV (d + 1) M_Mo_moves [(2, v0), (0, v1), (2, v2), (0, v3)] kd m q :=
  Ct.start k_Mo_moves (Nat.le_of_ble_eq_true rfl) ⟨0, Or.inl ⟨rfl, rfl⟩⟩ (T_Mo_moves_0 h)
set_option maxRecDepth 20000 in
set_option maxHeartbeats 1000000 in
theorem T_Mo_moves_3 {d : Nat} {kd : ZK} {m : ZM} {q : ZM → Prop} {v0 v1 v2 v3 v4 : Int} (h : ((829 ≤ v4 → q m) ∧ (¬ 829 ≤ v4 → (zIn kd v0 0 (iw ((iw (829 * v1)) + v4)) ∧ zIn kd v2 0 (iw ((iw (829 * v3)) + v4)) ∧ (Ev (d + 1) M_Mo_moves 0 0 3 [(2, v0), (0, v1), (2, v2), (0, v3), (0, iw (v4 + 1))] [] kd (zup m v2 (iw ((iw (829 * v3)) + v4)) (m v0 (iw ((iw (829 * v1)) + v4)))) (zqV kd q)))))) : Ev (d + 1) M_Mo_moves 0 0 3 [(2, v0), (0, v1), (2, v2), (0, v3), (0, v4)] [] kd m (zqV kd q) := by
  refine EvX.blk (pc' := 8) [(.iload 4, 0, 0), (.sipush 829, 0, 0)] (by decide +kernel) trivial ?_
  show Ev (d + 1) M_Mo_moves 0 0 8 [(2, v0), (0, v1), (2, v2), (0, v3), (0, v4)] [(0, 829), (0, v4)] kd m (zqV kd q)
  refine EvX.icmp_ge (off := 29) (tgt := 37) (by decide +kernel) (by decide) (fun hc => ?_) (fun hc => ?_)
  · have h := h.1 hc
    exact EvX.ret (r := zJ) (by decide +kernel) rfl ⟨rfl, rfl, h⟩
  · have h := h.2 hc
    obtain ⟨o1, o2, h⟩ := h
    refine EvX.blk (pc' := 34) [(.aload_n 2, 0, 0), (.sipush 829, 0, 0), (.iload_n 3, 0, 0), (.imul, 0, 0), (.iload 4, 0, 0), (.iadd, 0, 0), (.aload_n 0, 0, 0), (.sipush 829, 0, 0), (.iload_n 1, 0, 0), (.imul, 0, 0), (.iload 4, 0, 0), (.iadd, 0, 0), (.iaload, 0, 0), (.iastore, 0, 0), (.iinc 4 1, 0, 0)] (by decide +kernel) trivial ⟨o1, o2, ?_⟩
    show Ev (d + 1) M_Mo_moves 0 0 34 [(2, v0), (0, v1), (2, v2), (0, v3), (0, iw (v4 + 1))] [] kd (zup m v2 (iw ((iw (829 * v3)) + v4)) (m v0 (iw ((iw (829 * v1)) + v4)))) (zqV kd q)
    refine EvX.goto (off := (-31)) (tgt := 3) (by decide +kernel) (by decide) ?_
    exact h
set_option maxRecDepth 20000 in
set_option maxHeartbeats 1000000 in
theorem T_Mo_twoOf_0 {d : Nat} {kd : ZK} {m : ZM} {q : Int → ZM → Prop} {v0 v1 : Int} (h : q (iw ((iw (5 * v0)) + v1)) m) : Ev (d + 1) M_Mo_twoOf 0 0 0 [(0, v0), (0, v1)] [] kd m (zqI kd q) := by
  refine EvX.blk (pc' := 5) [(.iconst 5, 0, 0), (.iload_n 0, 0, 0), (.imul, 0, 0), (.iload_n 1, 0, 0), (.iadd, 0, 0)] (by decide +kernel) trivial ?_
  show Ev (d + 1) M_Mo_twoOf 0 0 5 [(0, v0), (0, v1)] [(0, iw ((iw (5 * v0)) + v1))] kd m (zqI kd q)
  exact EvX.ret (r := (0, iw ((iw (5 * v0)) + v1))) (by decide +kernel) rfl ⟨_, rfl, rfl, h⟩
theorem S_Mo_twoOf {d : Nat} {kd : ZK} {m : ZM} {q : Int → ZM → Prop} {v0 v1 : Int} (h : q (iw ((iw (5 * v0)) + v1)) m) : CtI (d + 1) M_Mo_twoOf [(0, v0), (0, v1)] kd m q :=
  Ct.start k_Mo_twoOf (Nat.le_of_ble_eq_true rfl) ⟨1, Or.inr (Or.inl ⟨rfl, rfl⟩)⟩ (T_Mo_twoOf_0 h)
set_option maxRecDepth 20000 in
set_option maxHeartbeats 1000000 in
theorem T_Mo_fourOf_0 {d : Nat} {kd : ZK} {m : ZM} {q : Int → ZM → Prop} {v0 v1 v2 v3 : Int} (h : (∃ q1, CtI d M_Mo_twoOf [(0, v0), (0, v1)] kd m q1 ∧ ∀ x2 m3, q1 x2 m3 → q (iw ((iw (4 * (iw ((iw (4 * x2)) + v2)))) + v3)) m3)) : Ev (d + 1) M_Mo_fourOf 0 0 0 [(0, v0), (0, v1), (0, v2), (0, v3)] [] kd m (zqI kd q) := by
  refine EvX.blk (pc' := 4) [(.iconst 4, 0, 0), (.iconst 4, 0, 0), (.iload_n 0, 0, 0), (.iload_n 1, 0, 0)] (by decide +kernel) trivial ?_
  show Ev (d + 1) M_Mo_fourOf 0 0 4 [(0, v0), (0, v1), (0, v2), (0, v3)] [(0, v1), (0, v0), (0, 4), (0, 4)] kd m (zqI kd q)
  obtain ⟨q1, hq, h⟩ := h
  refine EvX.callS (mc := 0) (ms := 0) (as := [(0, v0), (0, v1)]) (st := [(0, 4), (0, 4)]) (by decide +kernel) l_Mo_60 k_Mo_twoOf s_Mo_twoOf a_Mo_twoOf (by decide) (Nat.le_of_ble_eq_true rfl) hq (fun r kd1 m3 hr => ?_)
  obtain ⟨x2, rfl, hk, hr⟩ := hr
  subst kd1
  have h := h x2 m3 hr
  show Ev (d + 1) M_Mo_fourOf 0 0 7 [(0, v0), (0, v1), (0, v2), (0, v3)] [(0, x2), (0, 4), (0, 4)] kd m3 (zqI kd q)
  refine EvX.blk (pc' := 13) [(.imul, 0, 0), (.iload_n 2, 0, 0), (.iadd, 0, 0), (.imul, 0, 0), (.iload_n 3, 0, 0), (.iadd, 0, 0)] (by decide +kernel) trivial ?_
  show Ev (d + 1) M_Mo_fourOf 0 0 13 [(0, v0), (0, v1), (0, v2), (0, v3)] [(0, iw ((iw (4 * (iw ((iw (4 * x2)) + v2)))) + v3))] kd m3 (zqI kd q)
  exact EvX.ret (r := (0, iw ((iw (4 * (iw ((iw (4 * x2)) + v2)))) + v3))) (by decide +kernel) rfl ⟨_, rfl, rfl, h⟩
theorem S_Mo_fourOf {d : Nat} {kd : ZK} {m : ZM} {q : Int → ZM → Prop} {v0 v1 v2 v3 : Int} (h : (∃ q1, CtI d M_Mo_twoOf [(0, v0), (0, v1)] kd m q1 ∧ ∀ x2 m3, q1 x2 m3 → q (iw ((iw (4 * (iw ((iw (4 * x2)) + v2)))) + v3)) m3)) : CtI (d + 1) M_Mo_fourOf [(0, v0), (0, v1), (0, v2), (0, v3)] kd m q :=
  Ct.start k_Mo_fourOf (Nat.le_of_ble_eq_true rfl) ⟨1, Or.inr (Or.inl ⟨rfl, rfl⟩)⟩ (T_Mo_fourOf_0 h)
set_option maxRecDepth 20000 in
set_option maxHeartbeats 1000000 in
theorem T_Mo_feed_0 {d : Nat} {kd : ZK} {m : ZM} {q : Int → ZM → Prop} {v0 v1 v2 v3 v4 v5 : Int} (h : (zobj kd v0 8 ∧ (((iw ((m v0 8) + 20)) ≤ 400 → (zobj kd v0 8 ∧ ∃ q1, CtV d M_Mo_puts [(2, v0), (0, v1)] kd m q1 ∧ ∀ m3, q1 m3 → (zobj kd v0 8 ∧ ∃ q4, CtV d M_Mo_puts [(2, v0), (0, v2)] kd m3 q4 ∧ ∀ m6, q4 m6 → (zobj kd v0 8 ∧ ∃ q7, CtV d M_Mo_puts [(2, v0), (0, v3)] kd m6 q7 ∧ ∀ m9, q7 m9 → (zobj kd v0 8 ∧ ∃ q10, CtV d M_Mo_puts [(2, v0), (0, v4)] kd m9 q10 ∧ ∀ m12, q10 m12 → (zobj kd v0 8 ∧ ∃ q13, CtV d M_Mo_puts [(2, v0), (0, v5)] kd m12 q13 ∧ ∀ m15, q13 m15 → (zobj kd v0 8 ∧ q (m15 v0 8) m15))))))) ∧ (¬ (iw ((m v0 8) + 20)) ≤ 400 → q (-1) m)))) : Ev (d + 1) M_Mo_feed 0 0 0 [(2, v0), (0, v1), (0, v2), (0, v3), (0, v4), (0, v5)] [] kd m (zqI kd q) := by
  obtain ⟨o1, h⟩ := h
  refine EvX.blk (pc' := 10) [(.aload_n 0, 0, 0), (.getfield 64, 8, 8), (.bipush 20, 0, 0), (.iadd, 0, 0), (.sipush 400, 0, 0)] (by decide +kernel) ⟨g_Mo_64, trivial⟩ ⟨o1, ?_⟩
  show Ev (d + 1) M_Mo_feed 0 0 10 [(2, v0), (0, v1), (0, v2), (0, v3), (0, v4), (0, v5)] [(0, 400), (0, iw ((m v0 8) + 20))] kd m (zqI kd q)
  refine EvX.icmp_le (off := 5) (tgt := 15) (by decide +kernel) (by decide) (fun hc => ?_) (fun hc => ?_)
  · have h := h.1 hc
    refine EvX.blk (pc' := 17) [(.aload_n 0, 0, 0), (.iload_n 1, 0, 0)] (by decide +kernel) trivial ?_
    show Ev (d + 1) M_Mo_feed 0 0 17 [(2, v0), (0, v1), (0, v2), (0, v3), (0, v4), (0, v5)] [(0, v1), (2, v0)] kd m (zqI kd q)
    obtain ⟨ov, h⟩ := h
    obtain ⟨q1, hq, h⟩ := h
    refine EvX.callV (c := 8) (mc := 0) (ms := 0) (as := [(0, v1)]) (st := []) (by decide +kernel) l_Mo_68 k_Mo_puts v_Mo_puts a_Mo_puts (by decide) (Nat.le_of_ble_eq_true rfl) rfl ov hq (fun r kd1 m3 hr => ?_)
    obtain ⟨rfl, hk, hr⟩ := hr
    subst kd1
    have h := h m3 hr
    show Ev (d + 1) M_Mo_feed 0 0 20 [(2, v0), (0, v1), (0, v2), (0, v3), (0, v4), (0, v5)] [] kd m3 (zqI kd q)
    refine EvX.blk (pc' := 22) [(.aload_n 0, 0, 0), (.iload_n 2, 0, 0)] (by decide +kernel) trivial ?_
    show Ev (d + 1) M_Mo_feed 0 0 22 [(2, v0), (0, v1), (0, v2), (0, v3), (0, v4), (0, v5)] [(0, v2), (2, v0)] kd m3 (zqI kd q)
    obtain ⟨ov, h⟩ := h
    obtain ⟨q4, hq, h⟩ := h
    refine EvX.callV (c := 8) (mc := 0) (ms := 0) (as := [(0, v2)]) (st := []) (by decide +kernel) l_Mo_68 k_Mo_puts v_Mo_puts a_Mo_puts (by decide) (Nat.le_of_ble_eq_true rfl) rfl ov hq (fun r kd1 m6 hr => ?_)
    obtain ⟨rfl, hk, hr⟩ := hr
    subst kd1
    have h := h m6 hr
    show Ev (d + 1) M_Mo_feed 0 0 25 [(2, v0), (0, v1), (0, v2), (0, v3), (0, v4), (0, v5)] [] kd m6 (zqI kd q)
    refine EvX.blk (pc' := 27) [(.aload_n 0, 0, 0), (.iload_n 3, 0, 0)] (by decide +kernel) trivial ?_
    show Ev (d + 1) M_Mo_feed 0 0 27 [(2, v0), (0, v1), (0, v2), (0, v3), (0, v4), (0, v5)] [(0, v3), (2, v0)] kd m6 (zqI kd q)
    obtain ⟨ov, h⟩ := h
    obtain ⟨q7, hq, h⟩ := h
    refine EvX.callV (c := 8) (mc := 0) (ms := 0) (as := [(0, v3)]) (st := []) (by decide +kernel) l_Mo_68 k_Mo_puts v_Mo_puts a_Mo_puts (by decide) (Nat.le_of_ble_eq_true rfl) rfl ov hq (fun r kd1 m9 hr => ?_)
    obtain ⟨rfl, hk, hr⟩ := hr
    subst kd1
    have h := h m9 hr
    show Ev (d + 1) M_Mo_feed 0 0 30 [(2, v0), (0, v1), (0, v2), (0, v3), (0, v4), (0, v5)] [] kd m9 (zqI kd q)
    refine EvX.blk (pc' := 33) [(.aload_n 0, 0, 0), (.iload 4, 0, 0)] (by decide +kernel) trivial ?_
    show Ev (d + 1) M_Mo_feed 0 0 33 [(2, v0), (0, v1), (0, v2), (0, v3), (0, v4), (0, v5)] [(0, v4), (2, v0)] kd m9 (zqI kd q)
    obtain ⟨ov, h⟩ := h
    obtain ⟨q10, hq, h⟩ := h
    refine EvX.callV (c := 8) (mc := 0) (ms := 0) (as := [(0, v4)]) (st := []) (by decide +kernel) l_Mo_68 k_Mo_puts v_Mo_puts a_Mo_puts (by decide) (Nat.le_of_ble_eq_true rfl) rfl ov hq (fun r kd1 m12 hr => ?_)
    obtain ⟨rfl, hk, hr⟩ := hr
    subst kd1
    have h := h m12 hr
    show Ev (d + 1) M_Mo_feed 0 0 36 [(2, v0), (0, v1), (0, v2), (0, v3), (0, v4), (0, v5)] [] kd m12 (zqI kd q)
    refine EvX.blk (pc' := 39) [(.aload_n 0, 0, 0), (.iload 5, 0, 0)] (by decide +kernel) trivial ?_
    show Ev (d + 1) M_Mo_feed 0 0 39 [(2, v0), (0, v1), (0, v2), (0, v3), (0, v4), (0, v5)] [(0, v5), (2, v0)] kd m12 (zqI kd q)
    obtain ⟨ov, h⟩ := h
    obtain ⟨q13, hq, h⟩ := h
    refine EvX.callV (c := 8) (mc := 0) (ms := 0) (as := [(0, v5)]) (st := []) (by decide +kernel) l_Mo_68 k_Mo_puts v_Mo_puts a_Mo_puts (by decide) (Nat.le_of_ble_eq_true rfl) rfl ov hq (fun r kd1 m15 hr => ?_)
    obtain ⟨rfl, hk, hr⟩ := hr
    subst kd1
    have h := h m15 hr
    show Ev (d + 1) M_Mo_feed 0 0 42 [(2, v0), (0, v1), (0, v2), (0, v3), (0, v4), (0, v5)] [] kd m15 (zqI kd q)
    obtain ⟨o1, h⟩ := h
    refine EvX.blk (pc' := 46) [(.aload_n 0, 0, 0), (.getfield 64, 8, 8)] (by decide +kernel) ⟨g_Mo_64, trivial⟩ ⟨o1, ?_⟩
    show Ev (d + 1) M_Mo_feed 0 0 46 [(2, v0), (0, v1), (0, v2), (0, v3), (0, v4), (0, v5)] [(0, m15 v0 8)] kd m15 (zqI kd q)
    exact EvX.ret (r := (0, m15 v0 8)) (by decide +kernel) rfl ⟨_, rfl, rfl, h⟩
  · have h := h.2 hc
    refine EvX.blk (pc' := 14) [(.iconst (-1), 0, 0)] (by decide +kernel) trivial ?_
    show Ev (d + 1) M_Mo_feed 0 0 14 [(2, v0), (0, v1), (0, v2), (0, v3), (0, v4), (0, v5)] [(0, (-1))] kd m (zqI kd q)
    exact EvX.ret (r := (0, (-1))) (by decide +kernel) rfl ⟨_, rfl, rfl, h⟩
theorem S_Mo_feed {d : Nat} {kd : ZK} {m : ZM} {q : Int → ZM → Prop} {v0 v1 v2 v3 v4 v5 : Int} (h : (zobj kd v0 8 ∧ (((iw ((m v0 8) + 20)) ≤ 400 → (zobj kd v0 8 ∧ ∃ q1, CtV d M_Mo_puts [(2, v0), (0, v1)] kd m q1 ∧ ∀ m3, q1 m3 → (zobj kd v0 8 ∧ ∃ q4, CtV d M_Mo_puts [(2, v0), (0, v2)] kd m3 q4 ∧ ∀ m6, q4 m6 → (zobj kd v0 8 ∧ ∃ q7, CtV d M_Mo_puts [(2, v0), (0, v3)] kd m6 q7 ∧ ∀ m9, q7 m9 → (zobj kd v0 8 ∧ ∃ q10, CtV d M_Mo_puts [(2, v0), (0, v4)] kd m9 q10 ∧ ∀ m12, q10 m12 → (zobj kd v0 8 ∧ ∃ q13, CtV d M_Mo_puts [(2, v0), (0, v5)] kd m12 q13 ∧ ∀ m15, q13 m15 → (zobj kd v0 8 ∧ q (m15 v0 8) m15))))))) ∧ (¬ (iw ((m v0 8) + 20)) ≤ 400 → q (-1) m)))) : CtI (d + 1) M_Mo_feed [(2, v0), (0, v1), (0, v2), (0, v3), (0, v4), (0, v5)] kd m q :=
  Ct.start k_Mo_feed (Nat.le_of_ble_eq_true rfl) ⟨1, Or.inr (Or.inl ⟨rfl, rfl⟩)⟩ (T_Mo_feed_0 h)
set_option maxRecDepth 20000 in
set_option maxHeartbeats 1000000 in
theorem T_Mo_puts_0 {d : Nat} {kd : ZK} {m : ZM} {q : ZM → Prop} {v0 v1 : Int} (h : (Ev (d + 1) M_Mo_puts 0 0 3 [(2, v0), (0, v1), (0, 24)] [] kd m (zqV kd q))) : Ev (d + 1) M_Mo_puts 0 0 0 [(2, v0), (0, v1), zJ] [] kd m (zqV kd q) := by
  refine EvX.blk (pc' := 3) [(.bipush 24, 0, 0), (.istore_n 2, 0, 0)] (by decide +kernel) trivial ?_
  show Ev (d + 1) M_Mo_puts 0 0 3 [(2, v0), (0, v1), (0, 24)] [] kd m (zqV kd q)
  exact h
theorem S_Mo_puts {d : Nat} {kd : ZK} {m : ZM} {q : ZM → Prop} {v0 v1 : Int} (h : (Ev (d + 1) M_Mo_puts 0 0 3 [(2, v0), (0, v1), (0, 24)] [] kd m (zqV kd q))) : CtV (d + 1) M_Mo_puts [(2, v0), (0, v1)] kd m q :=
  Ct.start k_Mo_puts (Nat.le_of_ble_eq_true rfl) ⟨0, Or.inl ⟨rfl, rfl⟩⟩ (T_Mo_puts_0 h)
set_option maxRecDepth 20000 in
set_option maxHeartbeats 1000000 in
theorem T_Mo_puts_3 {d : Nat} {kd : ZK} {m : ZM} {q : ZM → Prop} {v0 v1 v2 : Int} (h : ((v2 < 0 → q m) ∧ (¬ v2 < 0 → (zobj kd v0 8 ∧ zobj kd v0 8 ∧ (-128 ≤ (zi2b (zshr v1 v2)) ∧ (zi2b (zshr v1 v2)) ≤ 127) ∧ zIn kd (m v0 7) 2 (m v0 8) ∧ zobj kd v0 8 ∧ zobj kd v0 8 ∧ (Ev (d + 1) M_Mo_puts 0 0 3 [(2, v0), (0, v1), (0, iw (v2 + (-8)))] [] kd (zup (zup m (m v0 7) (m v0 8) (zi2b (zshr v1 v2))) v0 8 (iw (((zup m (m v0 7) (m v0 8) (zi2b (zshr v1 v2))) v0 8) + 1))) (zqV kd q)))))) : Ev (d + 1) M_Mo_puts 0 0 3 [(2, v0), (0, v1), (0, v2)] [] kd m (zqV kd q) := by
  refine EvX.blk (pc' := 4) [(.iload_n 2, 0, 0)] (by decide +kernel) trivial ?_
  show Ev (d + 1) M_Mo_puts 0 0 4 [(2, v0), (0, v1), (0, v2)] [(0, v2)] kd m (zqV kd q)
  refine EvX.if_lt (off := 32) (tgt := 36) (by decide +kernel) (by decide) (fun hc => ?_) (fun hc => ?_)
  · have h := h.1 hc
    exact EvX.ret (r := zJ) (by decide +kernel) rfl ⟨rfl, rfl, h⟩
  · have h := h.2 hc
    obtain ⟨o1, o2, o3, o4, o5, o6, h⟩ := h
    refine EvX.blk (pc' := 33) [(.aload_n 0, 0, 0), (.getfield 29, 8, 7), (.aload_n 0, 0, 0), (.getfield 64, 8, 8), (.iload_n 1, 0, 0), (.iload_n 2, 0, 0), (.ishr, 0, 0), (.i2b, 0, 0), (.bastore, 2, 0), (.aload_n 0, 0, 0), (.dup, 0, 0), (.getfield 64, 8, 8), (.iconst 1, 0, 0), (.iadd, 0, 0), (.putfield 64, 8, 8), (.iinc 2 (-8), 0, 0)] (by decide +kernel) ⟨g_Mo_29, g_Mo_64, g_Mo_64, ⟨g_Mo_64, p_Mo_64⟩, trivial⟩ ⟨o1, o2, Or.inr ⟨rfl, o3⟩, o4, o5, rfl, o6, ?_⟩
    show Ev (d + 1) M_Mo_puts 0 0 33 [(2, v0), (0, v1), (0, iw (v2 + (-8)))] [] kd (zup (zup m (m v0 7) (m v0 8) (zi2b (zshr v1 v2))) v0 8 (iw (((zup m (m v0 7) (m v0 8) (zi2b (zshr v1 v2))) v0 8) + 1))) (zqV kd q)
    refine EvX.goto (off := (-30)) (tgt := 3) (by decide +kernel) (by decide) ?_
    exact h
set_option maxRecDepth 20000 in
set_option maxHeartbeats 1000000 in
theorem T_Mo_end_0 {d : Nat} {kd : ZK} {m : ZM} {q : Int → ZM → Prop} {v0 v1 : Int} (h : ((v1 < 0 → q (-1) m) ∧ (¬ v1 < 0 → (zobj kd v0 8 ∧ ((v1 ≤ (m v0 8) → (zobj kd v0 8 ∧ q v1 (zup m v0 8 v1))) ∧ (¬ v1 ≤ (m v0 8) → q (-1) m)))))) : Ev (d + 1) M_Mo_end 0 0 0 [(2, v0), (0, v1)] [] kd m (zqI kd q) := by
  refine EvX.blk (pc' := 1) [(.iload_n 1, 0, 0)] (by decide +kernel) trivial ?_
  show Ev (d + 1) M_Mo_end 0 0 1 [(2, v0), (0, v1)] [(0, v1)] kd m (zqI kd q)
  refine EvX.if_lt (off := 11) (tgt := 12) (by decide +kernel) (by decide) (fun hc => ?_) (fun hc => ?_)
  · have h := h.1 hc
    refine EvX.blk (pc' := 13) [(.iconst (-1), 0, 0)] (by decide +kernel) trivial ?_
    show Ev (d + 1) M_Mo_end 0 0 13 [(2, v0), (0, v1)] [(0, (-1))] kd m (zqI kd q)
    exact EvX.ret (r := (0, (-1))) (by decide +kernel) rfl ⟨_, rfl, rfl, h⟩
  · have h := h.2 hc
    obtain ⟨o1, h⟩ := h
    refine EvX.blk (pc' := 9) [(.iload_n 1, 0, 0), (.aload_n 0, 0, 0), (.getfield 64, 8, 8)] (by decide +kernel) ⟨g_Mo_64, trivial⟩ ⟨o1, ?_⟩
    show Ev (d + 1) M_Mo_end 0 0 9 [(2, v0), (0, v1)] [(0, m v0 8), (0, v1)] kd m (zqI kd q)
    refine EvX.icmp_le (off := 5) (tgt := 14) (by decide +kernel) (by decide) (fun hc => ?_) (fun hc => ?_)
    · have h := h.1 hc
      obtain ⟨o1, h⟩ := h
      refine EvX.blk (pc' := 20) [(.aload_n 0, 0, 0), (.iload_n 1, 0, 0), (.putfield 64, 8, 8), (.iload_n 1, 0, 0)] (by decide +kernel) ⟨⟨g_Mo_64, p_Mo_64⟩, trivial⟩ ⟨rfl, o1, ?_⟩
      show Ev (d + 1) M_Mo_end 0 0 20 [(2, v0), (0, v1)] [(0, v1)] kd (zup m v0 8 v1) (zqI kd q)
      exact EvX.ret (r := (0, v1)) (by decide +kernel) rfl ⟨_, rfl, rfl, h⟩
    · have h := h.2 hc
      refine EvX.blk (pc' := 13) [(.iconst (-1), 0, 0)] (by decide +kernel) trivial ?_
      show Ev (d + 1) M_Mo_end 0 0 13 [(2, v0), (0, v1)] [(0, (-1))] kd m (zqI kd q)
      exact EvX.ret (r := (0, (-1))) (by decide +kernel) rfl ⟨_, rfl, rfl, h⟩
theorem S_Mo_end {d : Nat} {kd : ZK} {m : ZM} {q : Int → ZM → Prop} {v0 v1 : Int} (h : ((v1 < 0 → q (-1) m) ∧ (¬ v1 < 0 → (zobj kd v0 8 ∧ ((v1 ≤ (m v0 8) → (zobj kd v0 8 ∧ q v1 (zup m v0 8 v1))) ∧ (¬ v1 ≤ (m v0 8) → q (-1) m)))))) : CtI (d + 1) M_Mo_end [(2, v0), (0, v1)] kd m q :=
  Ct.start k_Mo_end (Nat.le_of_ble_eq_true rfl) ⟨1, Or.inr (Or.inl ⟨rfl, rfl⟩)⟩ (T_Mo_end_0 h)
set_option maxRecDepth 20000 in
set_option maxHeartbeats 1000000 in
theorem T_Mo_sign_0_0 {d : Nat} {kd : ZK} {m : ZM} {q : Int → ZM → Prop} {v0 : Int} (h : (zobj kd v0 8 ∧ zobj kd v0 8 ∧ (((m v0 8) ≤ (m v0 9) → q (-1) m) ∧ (¬ (m v0 8) ≤ (m v0 9) → (zobj kd v0 8 ∧ zobj kd v0 8 ∧ zIn kd (m v0 7) 2 (m v0 9) ∧ q (zand (m (m v0 7) (m v0 9)) 255) m))))) : Ev (d + 1) M_Mo_sign_0 0 0 0 [(2, v0)] [] kd m (zqI kd q) := by
  obtain ⟨o1, o2, h⟩ := h
  refine EvX.blk (pc' := 8) [(.aload_n 0, 0, 0), (.getfield 72, 8, 9), (.aload_n 0, 0, 0), (.getfield 64, 8, 8)] (by decide +kernel) ⟨g_Mo_72, g_Mo_64, trivial⟩ ⟨o1, o2, ?_⟩
  show Ev (d + 1) M_Mo_sign_0 0 0 8 [(2, v0)] [(0, m v0 8), (0, m v0 9)] kd m (zqI kd q)
  refine EvX.icmp_ge (off := 19) (tgt := 27) (by decide +kernel) (by decide) (fun hc => ?_) (fun hc => ?_)
  · have h := h.1 hc
    refine EvX.blk (pc' := 28) [(.iconst (-1), 0, 0)] (by decide +kernel) trivial ?_
    show Ev (d + 1) M_Mo_sign_0 0 0 28 [(2, v0)] [(0, (-1))] kd m (zqI kd q)
    exact EvX.ret (r := (0, (-1))) (by decide +kernel) rfl ⟨_, rfl, rfl, h⟩
  · have h := h.2 hc
    obtain ⟨o1, o2, o3, h⟩ := h
    refine EvX.blk (pc' := 24) [(.aload_n 0, 0, 0), (.getfield 29, 8, 7), (.aload_n 0, 0, 0), (.getfield 72, 8, 9), (.baload, 2, 0), (.sipush 255, 0, 0), (.iand, 0, 0)] (by decide +kernel) ⟨g_Mo_29, g_Mo_72, trivial⟩ ⟨o1, o2, Or.inr rfl, o3, ?_⟩
    show Ev (d + 1) M_Mo_sign_0 0 0 24 [(2, v0)] [(0, zand (m (m v0 7) (m v0 9)) 255)] kd m (zqI kd q)
    refine EvX.goto (off := 4) (tgt := 28) (by decide +kernel) (by decide) ?_
    exact EvX.ret (r := (0, zand (m (m v0 7) (m v0 9)) 255)) (by decide +kernel) rfl ⟨_, rfl, rfl, h⟩
theorem S_Mo_sign_0 {d : Nat} {kd : ZK} {m : ZM} {q : Int → ZM → Prop} {v0 : Int} (h : (zobj kd v0 8 ∧ zobj kd v0 8 ∧ (((m v0 8) ≤ (m v0 9) → q (-1) m) ∧ (¬ (m v0 8) ≤ (m v0 9) → (zobj kd v0 8 ∧ zobj kd v0 8 ∧ zIn kd (m v0 7) 2 (m v0 9) ∧ q (zand (m (m v0 7) (m v0 9)) 255) m))))) : CtI (d + 1) M_Mo_sign_0 [(2, v0)] kd m q :=
  Ct.start k_Mo_sign_0 (Nat.le_of_ble_eq_true rfl) ⟨1, Or.inr (Or.inl ⟨rfl, rfl⟩)⟩ (T_Mo_sign_0_0 h)
set_option maxRecDepth 20000 in
set_option maxHeartbeats 1000000 in
theorem T_Mo_next_0 {d : Nat} {kd : ZK} {m : ZM} {q : Int → ZM → Prop} {v0 : Int} (h : (zobj kd v0 8 ∧ ∃ q1, CtI d M_Mo_sign_0 [(2, v0)] kd m q1 ∧ ∀ x2 m3, q1 x2 m3 → ((x2 ≠ 32 → (zobj kd v0 8 ∧ ∃ q4, CtI d M_Mo_sign_0 [(2, v0)] kd m3 q4 ∧ ∀ x5 m6, q4 x5 m6 → q x5 m6)) ∧ (¬ x2 ≠ 32 → (zobj kd v0 8 ∧ zobj kd v0 8 ∧ (Ev (d + 1) M_Mo_next 0 0 0 [(2, v0)] [] kd (zup m3 v0 9 (iw ((m3 v0 9) + 1))) (zqI kd q))))))) : Ev (d + 1) M_Mo_next 0 0 0 [(2, v0)] [] kd m (zqI kd q) := by
  refine EvX.blk (pc' := 1) [(.aload_n 0, 0, 0)] (by decide +kernel) trivial ?_
  show Ev (d + 1) M_Mo_next 0 0 1 [(2, v0)] [(2, v0)] kd m (zqI kd q)
  obtain ⟨ov, h⟩ := h
  obtain ⟨q1, hq, h⟩ := h
  refine EvX.callV (c := 8) (mc := 0) (ms := 0) (as := []) (st := []) (by decide +kernel) l_Mo_75 k_Mo_sign_0 v_Mo_sign_0 a_Mo_sign_0 (by decide) (Nat.le_of_ble_eq_true rfl) rfl ov hq (fun r kd1 m3 hr => ?_)
  obtain ⟨x2, rfl, hk, hr⟩ := hr
  subst kd1
  have h := h x2 m3 hr
  show Ev (d + 1) M_Mo_next 0 0 4 [(2, v0)] [(0, x2)] kd m3 (zqI kd q)
  refine EvX.blk (pc' := 6) [(.bipush 32, 0, 0)] (by decide +kernel) trivial ?_
  show Ev (d + 1) M_Mo_next 0 0 6 [(2, v0)] [(0, 32), (0, x2)] kd m3 (zqI kd q)
  refine EvX.icmp_ne (off := 16) (tgt := 22) (by decide +kernel) (by decide) (fun hc => ?_) (fun hc => ?_)
  · have h := h.1 hc
    refine EvX.blk (pc' := 23) [(.aload_n 0, 0, 0)] (by decide +kernel) trivial ?_
    show Ev (d + 1) M_Mo_next 0 0 23 [(2, v0)] [(2, v0)] kd m3 (zqI kd q)
    obtain ⟨ov, h⟩ := h
    obtain ⟨q4, hq, h⟩ := h
    refine EvX.callV (c := 8) (mc := 0) (ms := 0) (as := []) (st := []) (by decide +kernel) l_Mo_75 k_Mo_sign_0 v_Mo_sign_0 a_Mo_sign_0 (by decide) (Nat.le_of_ble_eq_true rfl) rfl ov hq (fun r kd1 m6 hr => ?_)
    obtain ⟨x5, rfl, hk, hr⟩ := hr
    subst kd1
    have h := h x5 m6 hr
    show Ev (d + 1) M_Mo_next 0 0 26 [(2, v0)] [(0, x5)] kd m6 (zqI kd q)
    exact EvX.ret (r := (0, x5)) (by decide +kernel) rfl ⟨_, rfl, rfl, h⟩
  · have h := h.2 hc
    obtain ⟨o1, o2, h⟩ := h
    refine EvX.blk (pc' := 19) [(.aload_n 0, 0, 0), (.dup, 0, 0), (.getfield 72, 8, 9), (.iconst 1, 0, 0), (.iadd, 0, 0), (.putfield 72, 8, 9)] (by decide +kernel) ⟨g_Mo_72, ⟨g_Mo_72, p_Mo_72⟩, trivial⟩ ⟨o1, rfl, o2, ?_⟩
    show Ev (d + 1) M_Mo_next 0 0 19 [(2, v0)] [] kd (zup m3 v0 9 (iw ((m3 v0 9) + 1))) (zqI kd q)
    refine EvX.goto (off := (-19)) (tgt := 0) (by decide +kernel) (by decide) ?_
    exact h
theorem S_Mo_next {d : Nat} {kd : ZK} {m : ZM} {q : Int → ZM → Prop} {v0 : Int} (h : (zobj kd v0 8 ∧ ∃ q1, CtI d M_Mo_sign_0 [(2, v0)] kd m q1 ∧ ∀ x2 m3, q1 x2 m3 → ((x2 ≠ 32 → (zobj kd v0 8 ∧ ∃ q4, CtI d M_Mo_sign_0 [(2, v0)] kd m3 q4 ∧ ∀ x5 m6, q4 x5 m6 → q x5 m6)) ∧ (¬ x2 ≠ 32 → (zobj kd v0 8 ∧ zobj kd v0 8 ∧ (Ev (d + 1) M_Mo_next 0 0 0 [(2, v0)] [] kd (zup m3 v0 9 (iw ((m3 v0 9) + 1))) (zqI kd q))))))) : CtI (d + 1) M_Mo_next [(2, v0)] kd m q :=
  Ct.start k_Mo_next (Nat.le_of_ble_eq_true rfl) ⟨1, Or.inr (Or.inl ⟨rfl, rfl⟩)⟩ (T_Mo_next_0 h)
set_option maxRecDepth 20000 in
set_option maxHeartbeats 1000000 in
theorem T_Mo_isRight_0 {d : Nat} {kd : ZK} {m : ZM} {q : Int → ZM → Prop} {v0 : Int} (h : (zobj kd v0 8 ∧ (((m v0 10) ≠ (-1) → q 0 m) ∧ (¬ (m v0 10) ≠ (-1) → q 1 m)))) : Ev (d + 1) M_Mo_isRight 0 0 0 [(2, v0)] [] kd m (zqI kd q) := by
  obtain ⟨o1, h⟩ := h
  refine EvX.blk (pc' := 5) [(.aload_n 0, 0, 0), (.getfield 79, 8, 10), (.iconst (-1), 0, 0)] (by decide +kernel) ⟨g_Mo_79, trivial⟩ ⟨o1, ?_⟩
  show Ev (d + 1) M_Mo_isRight 0 0 5 [(2, v0)] [(0, (-1)), (0, m v0 10)] kd m (zqI kd q)
  refine EvX.icmp_ne (off := 7) (tgt := 12) (by decide +kernel) (by decide) (fun hc => ?_) (fun hc => ?_)
  · have h := h.1 hc
    refine EvX.blk (pc' := 13) [(.iconst 0, 0, 0)] (by decide +kernel) trivial ?_
    show Ev (d + 1) M_Mo_isRight 0 0 13 [(2, v0)] [(0, 0)] kd m (zqI kd q)
    exact EvX.ret (r := (0, 0)) (by decide +kernel) ⟨rfl, by decide, by decide⟩ ⟨_, rfl, rfl, h⟩
  · have h := h.2 hc
    refine EvX.blk (pc' := 9) [(.iconst 1, 0, 0)] (by decide +kernel) trivial ?_
    show Ev (d + 1) M_Mo_isRight 0 0 9 [(2, v0)] [(0, 1)] kd m (zqI kd q)
    refine EvX.goto (off := 4) (tgt := 13) (by decide +kernel) (by decide) ?_
    exact EvX.ret (r := (0, 1)) (by decide +kernel) ⟨rfl, by decide, by decide⟩ ⟨_, rfl, rfl, h⟩
theorem S_Mo_isRight {d : Nat} {kd : ZK} {m : ZM} {q : Int → ZM → Prop} {v0 : Int} (h : (zobj kd v0 8 ∧ (((m v0 10) ≠ (-1) → q 0 m) ∧ (¬ (m v0 10) ≠ (-1) → q 1 m)))) : CtI (d + 1) M_Mo_isRight [(2, v0)] kd m q :=
  Ct.start k_Mo_isRight (Nat.le_of_ble_eq_true rfl) ⟨2, Or.inr (Or.inr (Or.inl ⟨rfl, rfl⟩))⟩ (T_Mo_isRight_0 h)
set_option maxRecDepth 20000 in
set_option maxHeartbeats 1000000 in
theorem T_Mo_fails_0 {d : Nat} {kd : ZK} {m : ZM} {q : ZM → Prop} {v0 v1 v2 : Int} (h : (zobj kd v0 8 ∧ ∃ q1, CtI d M_Mo_isRight [(2, v0)] kd m q1 ∧ ∀ x2 m3, q1 x2 m3 → ((x2 = 0 → q m3) ∧ (¬ x2 = 0 → (zobj kd v0 8 ∧ q (zup m3 v0 10 (iw ((iw (8 * v2)) + v1)))))))) : Ev (d + 1) M_Mo_fails 0 0 0 [(2, v0), (0, v1), (0, v2)] [] kd m (zqV kd q) := by
  refine EvX.blk (pc' := 1) [(.aload_n 0, 0, 0)] (by decide +kernel) trivial ?_
  show Ev (d + 1) M_Mo_fails 0 0 1 [(2, v0), (0, v1), (0, v2)] [(2, v0)] kd m (zqV kd q)
  obtain ⟨ov, h⟩ := h
  obtain ⟨q1, hq, h⟩ := h
  refine EvX.callV (c := 8) (mc := 0) (ms := 0) (as := []) (st := []) (by decide +kernel) l_Mo_82 k_Mo_isRight v_Mo_isRight a_Mo_isRight (by decide) (Nat.le_of_ble_eq_true rfl) rfl ov hq (fun r kd1 m3 hr => ?_)
  obtain ⟨x2, rfl, hk, hr⟩ := hr
  subst kd1
  have h := h x2 m3 hr
  show Ev (d + 1) M_Mo_fails 0 0 4 [(2, v0), (0, v1), (0, v2)] [(0, x2)] kd m3 (zqV kd q)
  refine EvX.if_eq (off := 13) (tgt := 17) (by decide +kernel) (by decide) (fun hc => ?_) (fun hc => ?_)
  · have h := h.1 hc
    exact EvX.ret (r := zJ) (by decide +kernel) rfl ⟨rfl, rfl, h⟩
  · have h := h.2 hc
    obtain ⟨o1, h⟩ := h
    refine EvX.blk (pc' := 17) [(.aload_n 0, 0, 0), (.bipush 8, 0, 0), (.iload_n 2, 0, 0), (.imul, 0, 0), (.iload_n 1, 0, 0), (.iadd, 0, 0), (.putfield 79, 8, 10)] (by decide +kernel) ⟨⟨g_Mo_79, p_Mo_79⟩, trivial⟩ ⟨rfl, o1, ?_⟩
    show Ev (d + 1) M_Mo_fails 0 0 17 [(2, v0), (0, v1), (0, v2)] [] kd (zup m3 v0 10 (iw ((iw (8 * v2)) + v1))) (zqV kd q)
    exact EvX.ret (r := zJ) (by decide +kernel) rfl ⟨rfl, rfl, h⟩
theorem S_Mo_fails {d : Nat} {kd : ZK} {m : ZM} {q : ZM → Prop} {v0 v1 v2 : Int} (h : (zobj kd v0 8 ∧ ∃ q1, CtI d M_Mo_isRight [(2, v0)] kd m q1 ∧ ∀ x2 m3, q1 x2 m3 → ((x2 = 0 → q m3) ∧ (¬ x2 = 0 → (zobj kd v0 8 ∧ q (zup m3 v0 10 (iw ((iw (8 * v2)) + v1)))))))) : CtV (d + 1) M_Mo_fails [(2, v0), (0, v1), (0, v2)] kd m q :=
  Ct.start k_Mo_fails (Nat.le_of_ble_eq_true rfl) ⟨0, Or.inl ⟨rfl, rfl⟩⟩ (T_Mo_fails_0 h)
set_option maxRecDepth 20000 in
set_option maxHeartbeats 1000000 in
theorem T_Mo_takes_0 {d : Nat} {kd : ZK} {m : ZM} {q : Int → ZM → Prop} {v0 v1 : Int} (h : (zobj kd v0 8 ∧ ∃ q1, CtI d M_Mo_next [(2, v0)] kd m q1 ∧ ∀ x2 m3, q1 x2 m3 → (Ev (d + 1) M_Mo_takes 0 0 7 [(2, v0), (3, v1), (0, 0), zJ, zJ] [] kd m3 (zqI kd q)))) : Ev (d + 1) M_Mo_takes 0 0 0 [(2, v0), (3, v1), zJ, zJ, zJ] [] kd m (zqI kd q) := by
  refine EvX.blk (pc' := 1) [(.aload_n 0, 0, 0)] (by decide +kernel) trivial ?_
  show Ev (d + 1) M_Mo_takes 0 0 1 [(2, v0), (3, v1), zJ, zJ, zJ] [(2, v0)] kd m (zqI kd q)
  obtain ⟨ov, h⟩ := h
  obtain ⟨q1, hq, h⟩ := h
  refine EvX.callV (c := 8) (mc := 0) (ms := 0) (as := []) (st := []) (by decide +kernel) l_Mo_86 k_Mo_next v_Mo_next a_Mo_next (by decide) (Nat.le_of_ble_eq_true rfl) rfl ov hq (fun r kd1 m3 hr => ?_)
  obtain ⟨x2, rfl, hk, hr⟩ := hr
  subst kd1
  have h := h x2 m3 hr
  show Ev (d + 1) M_Mo_takes 0 0 4 [(2, v0), (3, v1), zJ, zJ, zJ] [(0, x2)] kd m3 (zqI kd q)
  refine EvX.blk (pc' := 7) [(.pop, 0, 0), (.iconst 0, 0, 0), (.istore_n 2, 0, 0)] (by decide +kernel) trivial ?_
  show Ev (d + 1) M_Mo_takes 0 0 7 [(2, v0), (3, v1), (0, 0), zJ, zJ] [] kd m3 (zqI kd q)
  exact h
theorem S_Mo_takes {d : Nat} {kd : ZK} {m : ZM} {q : Int → ZM → Prop} {v0 v1 : Int} (h : (zobj kd v0 8 ∧ ∃ q1, CtI d M_Mo_next [(2, v0)] kd m q1 ∧ ∀ x2 m3, q1 x2 m3 → (Ev (d + 1) M_Mo_takes 0 0 7 [(2, v0), (3, v1), (0, 0), zJ, zJ] [] kd m3 (zqI kd q)))) : CtI (d + 1) M_Mo_takes [(2, v0), (3, v1)] kd m q :=
  Ct.start k_Mo_takes (Nat.le_of_ble_eq_true rfl) ⟨2, Or.inr (Or.inr (Or.inl ⟨rfl, rfl⟩))⟩ (T_Mo_takes_0 h)
set_option maxRecDepth 20000 in
set_option maxHeartbeats 1000000 in
theorem T_Mo_takes_7 {d : Nat} {kd : ZK} {m : ZM} {q : Int → ZM → Prop} {v0 v1 v2 : Int} (h : (zobj kd v0 8 ∧ zobj kd v0 8 ∧ (((m v0 8) ≤ (iw ((m v0 9) + v2)) → (Ev (d + 1) M_Mo_takes 0 0 50 [(2, v0), (3, v1), (0, v2), zJ, zJ] [] kd m (zqI kd q))) ∧ (¬ (m v0 8) ≤ (iw ((m v0 9) + v2)) → (zobj kd v0 8 ∧ zobj kd v0 8 ∧ zIn kd (m v0 7) 2 (iw ((m v0 9) + v2)) ∧ (∃ q1, CtI d M_Mo_in [(1, m (m v0 7) (iw ((m v0 9) + v2))), (1, 97), (1, 122)] kd m q1 ∧ ∀ x2 m3, q1 x2 m3 → ((x2 = 0 → (Ev (d + 1) M_Mo_takes 0 0 50 [(2, v0), (3, v1), (0, v2), zJ, zJ] [] kd m3 (zqI kd q))) ∧ (¬ x2 = 0 → (Ev (d + 1) M_Mo_takes 0 0 7 [(2, v0), (3, v1), (0, iw (v2 + 1)), zJ, zJ] [] kd m3 (zqI kd q)))))))))) : Ev (d + 1) M_Mo_takes 0 0 7 [(2, v0), (3, v1), (0, v2), zJ, zJ] [] kd m (zqI kd q) := by
  obtain ⟨o1, o2, h⟩ := h
  refine EvX.blk (pc' := 17) [(.aload_n 0, 0, 0), (.getfield 72, 8, 9), (.iload_n 2, 0, 0), (.iadd, 0, 0), (.aload_n 0, 0, 0), (.getfield 64, 8, 8)] (by decide +kernel) ⟨g_Mo_72, g_Mo_64, trivial⟩ ⟨o1, o2, ?_⟩
  show Ev (d + 1) M_Mo_takes 0 0 17 [(2, v0), (3, v1), (0, v2), zJ, zJ] [(0, m v0 8), (0, iw ((m v0 9) + v2))] kd m (zqI kd q)
  refine EvX.icmp_ge (off := 33) (tgt := 50) (by decide +kernel) (by decide) (fun hc => ?_) (fun hc => ?_)
  · have h := h.1 hc
    exact h
  · have h := h.2 hc
    obtain ⟨o1, o2, o3, h⟩ := h
    refine EvX.blk (pc' := 38) [(.aload_n 0, 0, 0), (.getfield 29, 8, 7), (.aload_n 0, 0, 0), (.getfield 72, 8, 9), (.iload_n 2, 0, 0), (.iadd, 0, 0), (.baload, 2, 0), (.i2l, 0, 0), (.ldc2_w 89, 0, 97), (.ldc2_w 91, 0, 122)] (by decide +kernel) ⟨g_Mo_29, g_Mo_72, z_Mo_89, z_Mo_91, trivial⟩ ⟨o1, o2, Or.inr rfl, o3, ?_⟩
    show Ev (d + 1) M_Mo_takes 0 0 38 [(2, v0), (3, v1), (0, v2), zJ, zJ] [(1, 122), (1, 97), (1, m (m v0 7) (iw ((m v0 9) + v2)))] kd m (zqI kd q)
    obtain ⟨q1, hq, h⟩ := h
    refine EvX.callS (mc := 0) (ms := 0) (as := [(1, m (m v0 7) (iw ((m v0 9) + v2))), (1, 97), (1, 122)]) (st := []) (by decide +kernel) l_Mo_93 k_Mo_in s_Mo_in a_Mo_in (by decide) (Nat.le_of_ble_eq_true rfl) hq (fun r kd1 m3 hr => ?_)
    obtain ⟨x2, rfl, hk, hr⟩ := hr
    subst kd1
    have h := h x2 m3 hr
    show Ev (d + 1) M_Mo_takes 0 0 41 [(2, v0), (3, v1), (0, v2), zJ, zJ] [(0, x2)] kd m3 (zqI kd q)
    refine EvX.if_eq (off := 9) (tgt := 50) (by decide +kernel) (by decide) (fun hc => ?_) (fun hc => ?_)
    · have h := h.1 hc
      exact h
    · have h := h.2 hc
      refine EvX.blk (pc' := 47) [(.iinc 2 1, 0, 0)] (by decide +kernel) trivial ?_
      show Ev (d + 1) M_Mo_takes 0 0 47 [(2, v0), (3, v1), (0, iw (v2 + 1)), zJ, zJ] [] kd m3 (zqI kd q)
      refine EvX.goto (off := (-40)) (tgt := 7) (by decide +kernel) (by decide) ?_
      exact h
set_option maxRecDepth 20000 in
set_option maxHeartbeats 1000000 in
theorem T_Mo_takes_50 {d : Nat} {kd : ZK} {m : ZM} {q : Int → ZM → Prop} {v0 v1 v2 : Int} (h : ((v1).toNat < zsN ∧ ∃ q1, CtI d M_Str_length [(3, v1)] kd m q1 ∧ ∀ x2 m3, q1 x2 m3 → ((v2 ≠ x2 → (Ev (d + 1) M_Mo_takes 0 0 67 [(2, v0), (3, v1), (0, v2), (0, 0), (0, 0)] [] kd m3 (zqI kd q))) ∧ (¬ v2 ≠ x2 → (Ev (d + 1) M_Mo_takes 0 0 67 [(2, v0), (3, v1), (0, v2), (0, 1), (0, 0)] [] kd m3 (zqI kd q)))))) : Ev (d + 1) M_Mo_takes 0 0 50 [(2, v0), (3, v1), (0, v2), zJ, zJ] [] kd m (zqI kd q) := by
  refine EvX.blk (pc' := 52) [(.iload_n 2, 0, 0), (.aload_n 1, 0, 0)] (by decide +kernel) trivial ?_
  show Ev (d + 1) M_Mo_takes 0 0 52 [(2, v0), (3, v1), (0, v2), zJ, zJ] [(3, v1), (0, v2)] kd m (zqI kd q)
  obtain ⟨oi, h⟩ := h
  obtain ⟨q1, hq, h⟩ := h
  refine EvX.callT (mc := 0) (ms := 0) (as := []) (st := [(0, v2)]) (by decide +kernel) l_Mo_97 k_Str_length v_Str_length a_Str_length (by decide) (Nat.le_of_ble_eq_true rfl) rfl oi hq (fun r kd1 m3 hr => ?_)
  obtain ⟨x2, rfl, hk, hr⟩ := hr
  subst kd1
  have h := h x2 m3 hr
  show Ev (d + 1) M_Mo_takes 0 0 55 [(2, v0), (3, v1), (0, v2), zJ, zJ] [(0, x2), (0, v2)] kd m3 (zqI kd q)
  refine EvX.icmp_ne (off := 7) (tgt := 62) (by decide +kernel) (by decide) (fun hc => ?_) (fun hc => ?_)
  · have h := h.1 hc
    refine EvX.blk (pc' := 67) [(.iconst 0, 0, 0), (.istore_n 3, 0, 0), (.iconst 0, 0, 0), (.istore 4, 0, 0)] (by decide +kernel) trivial ?_
    show Ev (d + 1) M_Mo_takes 0 0 67 [(2, v0), (3, v1), (0, v2), (0, 0), (0, 0)] [] kd m3 (zqI kd q)
    exact h
  · have h := h.2 hc
    refine EvX.blk (pc' := 59) [(.iconst 1, 0, 0)] (by decide +kernel) trivial ?_
    show Ev (d + 1) M_Mo_takes 0 0 59 [(2, v0), (3, v1), (0, v2), zJ, zJ] [(0, 1)] kd m3 (zqI kd q)
    refine EvX.goto (off := 4) (tgt := 63) (by decide +kernel) (by decide) ?_
    refine EvX.blk (pc' := 67) [(.istore_n 3, 0, 0), (.iconst 0, 0, 0), (.istore 4, 0, 0)] (by decide +kernel) trivial ?_
    show Ev (d + 1) M_Mo_takes 0 0 67 [(2, v0), (3, v1), (0, v2), (0, 1), (0, 0)] [] kd m3 (zqI kd q)
    exact h
set_option maxRecDepth 20000 in
set_option maxHeartbeats 1000000 in
theorem T_Mo_takes_67 {d : Nat} {kd : ZK} {m : ZM} {q : Int → ZM → Prop} {v0 v1 v2 v3 v4 : Int} (h : ((v2 ≤ v4 → (Ev (d + 1) M_Mo_takes 0 0 110 [(2, v0), zJ, (0, v2), (0, v3), zJ] [] kd m (zqI kd q))) ∧ (¬ v2 ≤ v4 → ((v3 = 0 → (Ev (d + 1) M_Mo_takes 0 0 110 [(2, v0), zJ, (0, v2), (0, v3), zJ] [] kd m (zqI kd q))) ∧ (¬ v3 = 0 → (zobj kd v0 8 ∧ zobj kd v0 8 ∧ zIn kd (m v0 7) 2 (iw ((m v0 9) + v4)) ∧ ((v1).toNat < zsN ∧ ∃ q1, CtI d M_Str_charAt [(3, v1), (0, v4)] kd m q1 ∧ ∀ x2 m3, q1 x2 m3 → (((m (m v0 7) (iw ((m v0 9) + v4))) ≠ x2 → (Ev (d + 1) M_Mo_takes 0 0 67 [(2, v0), (3, v1), (0, v2), (0, 0), (0, iw (v4 + 1))] [] kd m3 (zqI kd q))) ∧ (¬ (m (m v0 7) (iw ((m v0 9) + v4))) ≠ x2 → (Ev (d + 1) M_Mo_takes 0 0 67 [(2, v0), (3, v1), (0, v2), (0, 1), (0, iw (v4 + 1))] [] kd m3 (zqI kd q))))))))))) : Ev (d + 1) M_Mo_takes 0 0 67 [(2, v0), (3, v1), (0, v2), (0, v3), (0, v4)] [] kd m (zqI kd q) := by
  refine EvX.blk (pc' := 70) [(.iload 4, 0, 0), (.iload_n 2, 0, 0)] (by decide +kernel) trivial ?_
  show Ev (d + 1) M_Mo_takes 0 0 70 [(2, v0), (3, v1), (0, v2), (0, v3), (0, v4)] [(0, v2), (0, v4)] kd m (zqI kd q)
  refine EvX.icmp_ge (off := 40) (tgt := 110) (by decide +kernel) (by decide) (fun hc => ?_) (fun hc => ?_)
  · have h := h.1 hc
    exact EvX.weak (ls2 := [(2, v0), zJ, (0, v2), (0, v3), zJ]) (zwk_of ⟨Or.inr rfl, Or.inl rfl, Or.inr rfl, Or.inr rfl, Or.inl rfl, trivial⟩) h
  · have h := h.2 hc
    refine EvX.blk (pc' := 74) [(.iload_n 3, 0, 0)] (by decide +kernel) trivial ?_
    show Ev (d + 1) M_Mo_takes 0 0 74 [(2, v0), (3, v1), (0, v2), (0, v3), (0, v4)] [(0, v3)] kd m (zqI kd q)
    refine EvX.if_eq (off := 36) (tgt := 110) (by decide +kernel) (by decide) (fun hc => ?_) (fun hc => ?_)
    · have h := h.1 hc
      exact EvX.weak (ls2 := [(2, v0), zJ, (0, v2), (0, v3), zJ]) (zwk_of ⟨Or.inr rfl, Or.inl rfl, Or.inr rfl, Or.inr rfl, Or.inl rfl, trivial⟩) h
    · have h := h.2 hc
      obtain ⟨o1, o2, o3, h⟩ := h
      refine EvX.blk (pc' := 92) [(.aload_n 0, 0, 0), (.getfield 29, 8, 7), (.aload_n 0, 0, 0), (.getfield 72, 8, 9), (.iload 4, 0, 0), (.iadd, 0, 0), (.baload, 2, 0), (.aload_n 1, 0, 0), (.iload 4, 0, 0)] (by decide +kernel) ⟨g_Mo_29, g_Mo_72, trivial⟩ ⟨o1, o2, Or.inr rfl, o3, ?_⟩
      show Ev (d + 1) M_Mo_takes 0 0 92 [(2, v0), (3, v1), (0, v2), (0, v3), (0, v4)] [(0, v4), (3, v1), (0, m (m v0 7) (iw ((m v0 9) + v4)))] kd m (zqI kd q)
      obtain ⟨oi, h⟩ := h
      obtain ⟨q1, hq, h⟩ := h
      refine EvX.callT (mc := 0) (ms := 0) (as := [(0, v4)]) (st := [(0, m (m v0 7) (iw ((m v0 9) + v4)))]) (by decide +kernel) l_Mo_102 k_Str_charAt v_Str_charAt a_Str_charAt (by decide) (Nat.le_of_ble_eq_true rfl) rfl oi hq (fun r kd1 m3 hr => ?_)
      obtain ⟨x2, rfl, hk, hr⟩ := hr
      subst kd1
      have h := h x2 m3 hr
      show Ev (d + 1) M_Mo_takes 0 0 95 [(2, v0), (3, v1), (0, v2), (0, v3), (0, v4)] [(0, x2), (0, m (m v0 7) (iw ((m v0 9) + v4)))] kd m3 (zqI kd q)
      refine EvX.icmp_ne (off := 7) (tgt := 102) (by decide +kernel) (by decide) (fun hc => ?_) (fun hc => ?_)
      · have h := h.1 hc
        refine EvX.blk (pc' := 107) [(.iconst 0, 0, 0), (.istore_n 3, 0, 0), (.iinc 4 1, 0, 0)] (by decide +kernel) trivial ?_
        show Ev (d + 1) M_Mo_takes 0 0 107 [(2, v0), (3, v1), (0, v2), (0, 0), (0, iw (v4 + 1))] [] kd m3 (zqI kd q)
        refine EvX.goto (off := (-40)) (tgt := 67) (by decide +kernel) (by decide) ?_
        exact h
      · have h := h.2 hc
        refine EvX.blk (pc' := 99) [(.iconst 1, 0, 0)] (by decide +kernel) trivial ?_
        show Ev (d + 1) M_Mo_takes 0 0 99 [(2, v0), (3, v1), (0, v2), (0, v3), (0, v4)] [(0, 1)] kd m3 (zqI kd q)
        refine EvX.goto (off := 4) (tgt := 103) (by decide +kernel) (by decide) ?_
        refine EvX.blk (pc' := 107) [(.istore_n 3, 0, 0), (.iinc 4 1, 0, 0)] (by decide +kernel) trivial ?_
        show Ev (d + 1) M_Mo_takes 0 0 107 [(2, v0), (3, v1), (0, v2), (0, 1), (0, iw (v4 + 1))] [] kd m3 (zqI kd q)
        refine EvX.goto (off := (-40)) (tgt := 67) (by decide +kernel) (by decide) ?_
        exact h
set_option maxRecDepth 20000 in
set_option maxHeartbeats 1000000 in
theorem T_Mo_takes_110 {d : Nat} {kd : ZK} {m : ZM} {q : Int → ZM → Prop} {v0 v2 v3 : Int} (h : (zobj kd v0 8 ∧ ((v3 = 0 → (zobj kd v0 8 ∧ ((0 ≤ v3 ∧ v3 ≤ 1) ∧ q v3 (zup m v0 9 (iw ((m v0 9) + 0)))))) ∧ (¬ v3 = 0 → (zobj kd v0 8 ∧ ((0 ≤ v3 ∧ v3 ≤ 1) ∧ q v3 (zup m v0 9 (iw ((m v0 9) + v2))))))))) : Ev (d + 1) M_Mo_takes 0 0 110 [(2, v0), zJ, (0, v2), (0, v3), zJ] [] kd m (zqI kd q) := by
  obtain ⟨o1, h⟩ := h
  refine EvX.blk (pc' := 116) [(.aload_n 0, 0, 0), (.dup, 0, 0), (.getfield 72, 8, 9), (.iload_n 3, 0, 0)] (by decide +kernel) ⟨g_Mo_72, trivial⟩ ⟨o1, ?_⟩
  show Ev (d + 1) M_Mo_takes 0 0 116 [(2, v0), zJ, (0, v2), (0, v3), zJ] [(0, v3), (0, m v0 9), (2, v0)] kd m (zqI kd q)
  refine EvX.if_eq (off := 7) (tgt := 123) (by decide +kernel) (by decide) (fun hc => ?_) (fun hc => ?_)
  · have h := h.1 hc
    obtain ⟨o1, h⟩ := h
    refine EvX.blk (pc' := 129) [(.iconst 0, 0, 0), (.iadd, 0, 0), (.putfield 72, 8, 9), (.iload_n 3, 0, 0)] (by decide +kernel) ⟨⟨g_Mo_72, p_Mo_72⟩, trivial⟩ ⟨rfl, o1, ?_⟩
    show Ev (d + 1) M_Mo_takes 0 0 129 [(2, v0), zJ, (0, v2), (0, v3), zJ] [(0, v3)] kd (zup m v0 9 (iw ((m v0 9) + 0))) (zqI kd q)
    exact EvX.ret (r := (0, v3)) (by decide +kernel) ⟨rfl, h.1.1, h.1.2⟩ ⟨_, rfl, rfl, h.2⟩
  · have h := h.2 hc
    refine EvX.blk (pc' := 120) [(.iload_n 2, 0, 0)] (by decide +kernel) trivial ?_
    show Ev (d + 1) M_Mo_takes 0 0 120 [(2, v0), zJ, (0, v2), (0, v3), zJ] [(0, v2), (0, m v0 9), (2, v0)] kd m (zqI kd q)
    refine EvX.goto (off := 4) (tgt := 124) (by decide +kernel) (by decide) ?_
    obtain ⟨o1, h⟩ := h
    refine EvX.blk (pc' := 129) [(.iadd, 0, 0), (.putfield 72, 8, 9), (.iload_n 3, 0, 0)] (by decide +kernel) ⟨⟨g_Mo_72, p_Mo_72⟩, trivial⟩ ⟨rfl, o1, ?_⟩
    show Ev (d + 1) M_Mo_takes 0 0 129 [(2, v0), zJ, (0, v2), (0, v3), zJ] [(0, v3)] kd (zup m v0 9 (iw ((m v0 9) + v2))) (zqI kd q)
    exact EvX.ret (r := (0, v3)) (by decide +kernel) ⟨rfl, h.1.1, h.1.2⟩ ⟨_, rfl, rfl, h.2⟩
set_option maxRecDepth 20000 in
set_option maxHeartbeats 1000000 in
theorem T_Mo_number_0 {d : Nat} {kd : ZK} {m : ZM} {q : Int → ZM → Prop} {v0 v1 v2 : Int} (h : (zobj kd v0 8 ∧ ∃ q1, CtI d M_Mo_isRight [(2, v0)] kd m q1 ∧ ∀ x2 m3, q1 x2 m3 → ((x2 = 0 → (zobj kd v0 8 ∧ (zobj kd v0 8 ∧ ∃ q4, CtV d M_Mo_fails [(2, v0), (0, 1), (0, m3 v0 9)] kd m3 q4 ∧ ∀ m6, q4 m6 → q v1 m6))) ∧ (¬ x2 = 0 → (zobj kd v0 8 ∧ ∃ q7, CtI d M_Mo_next [(2, v0)] kd m3 q7 ∧ ∀ x8 m9, q7 x8 m9 → (∃ q10, CtI d M_Mo_in [(1, x8), (1, 48), (1, 57)] kd m9 q10 ∧ ∀ x11 m12, q10 x11 m12 → ((x11 ≠ 0 → (zobj kd v0 8 ∧ zobj kd v0 8 ∧ (Ev (d + 1) M_Mo_number 0 0 45 [(2, v0), (0, v1), (0, v2), (0, 0)] [] kd (zup m12 v0 11 (m12 v0 9)) (zqI kd q)))) ∧ (¬ x11 ≠ 0 → (zobj kd v0 8 ∧ (zobj kd v0 8 ∧ ∃ q13, CtV d M_Mo_fails [(2, v0), (0, 1), (0, m12 v0 9)] kd m12 q13 ∧ ∀ m15, q13 m15 → q v1 m15)))))))))) : Ev (d + 1) M_Mo_number 0 0 0 [(2, v0), (0, v1), (0, v2), zJ] [] kd m (zqI kd q) := by
  refine EvX.blk (pc' := 1) [(.aload_n 0, 0, 0)] (by decide +kernel) trivial ?_
  show Ev (d + 1) M_Mo_number 0 0 1 [(2, v0), (0, v1), (0, v2), zJ] [(2, v0)] kd m (zqI kd q)
  obtain ⟨ov, h⟩ := h
  obtain ⟨q1, hq, h⟩ := h
  refine EvX.callV (c := 8) (mc := 0) (ms := 0) (as := []) (st := []) (by decide +kernel) l_Mo_82 k_Mo_isRight v_Mo_isRight a_Mo_isRight (by decide) (Nat.le_of_ble_eq_true rfl) rfl ov hq (fun r kd1 m3 hr => ?_)
  obtain ⟨x2, rfl, hk, hr⟩ := hr
  subst kd1
  have h := h x2 m3 hr
  show Ev (d + 1) M_Mo_number 0 0 4 [(2, v0), (0, v1), (0, v2), zJ] [(0, x2)] kd m3 (zqI kd q)
  refine EvX.if_eq (off := 20) (tgt := 24) (by decide +kernel) (by decide) (fun hc => ?_) (fun hc => ?_)
  · have h := h.1 hc
    obtain ⟨o1, h⟩ := h
    refine EvX.blk (pc' := 30) [(.aload_n 0, 0, 0), (.iconst 1, 0, 0), (.aload_n 0, 0, 0), (.getfield 72, 8, 9)] (by decide +kernel) ⟨g_Mo_72, trivial⟩ ⟨o1, ?_⟩
    show Ev (d + 1) M_Mo_number 0 0 30 [(2, v0), (0, v1), (0, v2), zJ] [(0, m3 v0 9), (0, 1), (2, v0)] kd m3 (zqI kd q)
    obtain ⟨ov, h⟩ := h
    obtain ⟨q4, hq, h⟩ := h
    refine EvX.callV (c := 8) (mc := 0) (ms := 0) (as := [(0, 1), (0, m3 v0 9)]) (st := []) (by decide +kernel) l_Mo_110 k_Mo_fails v_Mo_fails a_Mo_fails (by decide) (Nat.le_of_ble_eq_true rfl) rfl ov hq (fun r kd1 m6 hr => ?_)
    obtain ⟨rfl, hk, hr⟩ := hr
    subst kd1
    have h := h m6 hr
    show Ev (d + 1) M_Mo_number 0 0 33 [(2, v0), (0, v1), (0, v2), zJ] [] kd m6 (zqI kd q)
    refine EvX.blk (pc' := 34) [(.iload_n 1, 0, 0)] (by decide +kernel) trivial ?_
    show Ev (d + 1) M_Mo_number 0 0 34 [(2, v0), (0, v1), (0, v2), zJ] [(0, v1)] kd m6 (zqI kd q)
    exact EvX.ret (r := (0, v1)) (by decide +kernel) rfl ⟨_, rfl, rfl, h⟩
  · have h := h.2 hc
    refine EvX.blk (pc' := 8) [(.aload_n 0, 0, 0)] (by decide +kernel) trivial ?_
    show Ev (d + 1) M_Mo_number 0 0 8 [(2, v0), (0, v1), (0, v2), zJ] [(2, v0)] kd m3 (zqI kd q)
    obtain ⟨ov, h⟩ := h
    obtain ⟨q7, hq, h⟩ := h
    refine EvX.callV (c := 8) (mc := 0) (ms := 0) (as := []) (st := []) (by decide +kernel) l_Mo_86 k_Mo_next v_Mo_next a_Mo_next (by decide) (Nat.le_of_ble_eq_true rfl) rfl ov hq (fun r kd1 m9 hr => ?_)
    obtain ⟨x8, rfl, hk, hr⟩ := hr
    subst kd1
    have h := h x8 m9 hr
    show Ev (d + 1) M_Mo_number 0 0 11 [(2, v0), (0, v1), (0, v2), zJ] [(0, x8)] kd m9 (zqI kd q)
    refine EvX.blk (pc' := 18) [(.i2l, 0, 0), (.ldc2_w 106, 0, 48), (.ldc2_w 108, 0, 57)] (by decide +kernel) ⟨z_Mo_106, z_Mo_108, trivial⟩ ?_
    show Ev (d + 1) M_Mo_number 0 0 18 [(2, v0), (0, v1), (0, v2), zJ] [(1, 57), (1, 48), (1, x8)] kd m9 (zqI kd q)
    obtain ⟨q10, hq, h⟩ := h
    refine EvX.callS (mc := 0) (ms := 0) (as := [(1, x8), (1, 48), (1, 57)]) (st := []) (by decide +kernel) l_Mo_93 k_Mo_in s_Mo_in a_Mo_in (by decide) (Nat.le_of_ble_eq_true rfl) hq (fun r kd1 m12 hr => ?_)
    obtain ⟨x11, rfl, hk, hr⟩ := hr
    subst kd1
    have h := h x11 m12 hr
    show Ev (d + 1) M_Mo_number 0 0 21 [(2, v0), (0, v1), (0, v2), zJ] [(0, x11)] kd m12 (zqI kd q)
    refine EvX.if_ne (off := 14) (tgt := 35) (by decide +kernel) (by decide) (fun hc => ?_) (fun hc => ?_)
    · have h := h.1 hc
      obtain ⟨o1, o2, h⟩ := h
      refine EvX.blk (pc' := 45) [(.aload_n 0, 0, 0), (.aload_n 0, 0, 0), (.getfield 72, 8, 9), (.putfield 114, 8, 11), (.iconst 0, 0, 0), (.istore_n 3, 0, 0)] (by decide +kernel) ⟨g_Mo_72, ⟨g_Mo_114, p_Mo_114⟩, trivial⟩ ⟨o1, rfl, o2, ?_⟩
      show Ev (d + 1) M_Mo_number 0 0 45 [(2, v0), (0, v1), (0, v2), (0, 0)] [] kd (zup m12 v0 11 (m12 v0 9)) (zqI kd q)
      exact h
    · have h := h.2 hc
      obtain ⟨o1, h⟩ := h
      refine EvX.blk (pc' := 30) [(.aload_n 0, 0, 0), (.iconst 1, 0, 0), (.aload_n 0, 0, 0), (.getfield 72, 8, 9)] (by decide +kernel) ⟨g_Mo_72, trivial⟩ ⟨o1, ?_⟩
      show Ev (d + 1) M_Mo_number 0 0 30 [(2, v0), (0, v1), (0, v2), zJ] [(0, m12 v0 9), (0, 1), (2, v0)] kd m12 (zqI kd q)
      obtain ⟨ov, h⟩ := h
      obtain ⟨q13, hq, h⟩ := h
      refine EvX.callV (c := 8) (mc := 0) (ms := 0) (as := [(0, 1), (0, m12 v0 9)]) (st := []) (by decide +kernel) l_Mo_110 k_Mo_fails v_Mo_fails a_Mo_fails (by decide) (Nat.le_of_ble_eq_true rfl) rfl ov hq (fun r kd1 m15 hr => ?_)
      obtain ⟨rfl, hk, hr⟩ := hr
      subst kd1
      have h := h m15 hr
      show Ev (d + 1) M_Mo_number 0 0 33 [(2, v0), (0, v1), (0, v2), zJ] [] kd m15 (zqI kd q)
      refine EvX.blk (pc' := 34) [(.iload_n 1, 0, 0)] (by decide +kernel) trivial ?_
      show Ev (d + 1) M_Mo_number 0 0 34 [(2, v0), (0, v1), (0, v2), zJ] [(0, v1)] kd m15 (zqI kd q)
      exact EvX.ret (r := (0, v1)) (by decide +kernel) rfl ⟨_, rfl, rfl, h⟩
theorem S_Mo_number {d : Nat} {kd : ZK} {m : ZM} {q : Int → ZM → Prop} {v0 v1 v2 : Int} (h : (zobj kd v0 8 ∧ ∃ q1, CtI d M_Mo_isRight [(2, v0)] kd m q1 ∧ ∀ x2 m3, q1 x2 m3 → ((x2 = 0 → (zobj kd v0 8 ∧ (zobj kd v0 8 ∧ ∃ q4, CtV d M_Mo_fails [(2, v0), (0, 1), (0, m3 v0 9)] kd m3 q4 ∧ ∀ m6, q4 m6 → q v1 m6))) ∧ (¬ x2 = 0 → (zobj kd v0 8 ∧ ∃ q7, CtI d M_Mo_next [(2, v0)] kd m3 q7 ∧ ∀ x8 m9, q7 x8 m9 → (∃ q10, CtI d M_Mo_in [(1, x8), (1, 48), (1, 57)] kd m9 q10 ∧ ∀ x11 m12, q10 x11 m12 → ((x11 ≠ 0 → (zobj kd v0 8 ∧ zobj kd v0 8 ∧ (Ev (d + 1) M_Mo_number 0 0 45 [(2, v0), (0, v1), (0, v2), (0, 0)] [] kd (zup m12 v0 11 (m12 v0 9)) (zqI kd q)))) ∧ (¬ x11 ≠ 0 → (zobj kd v0 8 ∧ (zobj kd v0 8 ∧ ∃ q13, CtV d M_Mo_fails [(2, v0), (0, 1), (0, m12 v0 9)] kd m12 q13 ∧ ∀ m15, q13 m15 → q v1 m15)))))))))) : CtI (d + 1) M_Mo_number [(2, v0), (0, v1), (0, v2)] kd m q :=
  Ct.start k_Mo_number (Nat.le_of_ble_eq_true rfl) ⟨1, Or.inr (Or.inl ⟨rfl, rfl⟩)⟩ (T_Mo_number_0 h)
set_option maxRecDepth 20000 in
set_option maxHeartbeats 1000000 in
theorem T_Mo_number_45 {d : Nat} {kd : ZK} {m : ZM} {q : Int → ZM → Prop} {v0 v1 v2 v3 : Int} (h : (zobj kd v0 8 ∧ ∃ q1, CtI d M_Mo_sign_0 [(2, v0)] kd m q1 ∧ ∀ x2 m3, q1 x2 m3 → (∃ q4, CtI d M_Mo_in [(1, x2), (1, 48), (1, 57)] kd m3 q4 ∧ ∀ x5 m6, q4 x5 m6 → ((x5 = 0 → (∃ q7, CtI d M_Mo_in [(1, v3), (1, v1), (1, v2)] kd m6 q7 ∧ ∀ x8 m9, q7 x8 m9 → ((x8 ≠ 0 → q v3 m9) ∧ (¬ x8 ≠ 0 → (zobj kd v0 8 ∧ (zobj kd v0 8 ∧ ∃ q10, CtV d M_Mo_fails [(2, v0), (0, 2), (0, m9 v0 11)] kd m9 q10 ∧ ∀ m12, q10 m12 → q v1 m12)))))) ∧ (¬ x5 = 0 → (zobj kd v0 8 ∧ ∃ q13, CtI d M_Mo_sign_0 [(2, v0)] kd m6 q13 ∧ ∀ x14 m15, q13 x14 m15 → (zobj kd v0 8 ∧ zobj kd v0 8 ∧ (Ev (d + 1) M_Mo_number 0 0 45 [(2, v0), (0, v1), (0, v2), (0, zmin 1000 (iw ((iw ((iw (10 * v3)) + x14)) - 48)))] [] kd (zup m15 v0 9 (iw ((m15 v0 9) + 1))) (zqI kd q))))))))) : Ev (d + 1) M_Mo_number 0 0 45 [(2, v0), (0, v1), (0, v2), (0, v3)] [] kd m (zqI kd q) := by
  refine EvX.blk (pc' := 46) [(.aload_n 0, 0, 0)] (by decide +kernel) trivial ?_
  show Ev (d + 1) M_Mo_number 0 0 46 [(2, v0), (0, v1), (0, v2), (0, v3)] [(2, v0)] kd m (zqI kd q)
  obtain ⟨ov, h⟩ := h
  obtain ⟨q1, hq, h⟩ := h
  refine EvX.callV (c := 8) (mc := 0) (ms := 0) (as := []) (st := []) (by decide +kernel) l_Mo_75 k_Mo_sign_0 v_Mo_sign_0 a_Mo_sign_0 (by decide) (Nat.le_of_ble_eq_true rfl) rfl ov hq (fun r kd1 m3 hr => ?_)
  obtain ⟨x2, rfl, hk, hr⟩ := hr
  subst kd1
  have h := h x2 m3 hr
  show Ev (d + 1) M_Mo_number 0 0 49 [(2, v0), (0, v1), (0, v2), (0, v3)] [(0, x2)] kd m3 (zqI kd q)
  refine EvX.blk (pc' := 56) [(.i2l, 0, 0), (.ldc2_w 106, 0, 48), (.ldc2_w 108, 0, 57)] (by decide +kernel) ⟨z_Mo_106, z_Mo_108, trivial⟩ ?_
  show Ev (d + 1) M_Mo_number 0 0 56 [(2, v0), (0, v1), (0, v2), (0, v3)] [(1, 57), (1, 48), (1, x2)] kd m3 (zqI kd q)
  obtain ⟨q4, hq, h⟩ := h
  refine EvX.callS (mc := 0) (ms := 0) (as := [(1, x2), (1, 48), (1, 57)]) (st := []) (by decide +kernel) l_Mo_93 k_Mo_in s_Mo_in a_Mo_in (by decide) (Nat.le_of_ble_eq_true rfl) hq (fun r kd1 m6 hr => ?_)
  obtain ⟨x5, rfl, hk, hr⟩ := hr
  subst kd1
  have h := h x5 m6 hr
  show Ev (d + 1) M_Mo_number 0 0 59 [(2, v0), (0, v1), (0, v2), (0, v3)] [(0, x5)] kd m6 (zqI kd q)
  refine EvX.if_eq (off := 35) (tgt := 94) (by decide +kernel) (by decide) (fun hc => ?_) (fun hc => ?_)
  · have h := h.1 hc
    refine EvX.blk (pc' := 100) [(.iload_n 3, 0, 0), (.i2l, 0, 0), (.iload_n 1, 0, 0), (.i2l, 0, 0), (.iload_n 2, 0, 0), (.i2l, 0, 0)] (by decide +kernel) trivial ?_
    show Ev (d + 1) M_Mo_number 0 0 100 [(2, v0), (0, v1), (0, v2), (0, v3)] [(1, v2), (1, v1), (1, v3)] kd m6 (zqI kd q)
    obtain ⟨q7, hq, h⟩ := h
    refine EvX.callS (mc := 0) (ms := 0) (as := [(1, v3), (1, v1), (1, v2)]) (st := []) (by decide +kernel) l_Mo_93 k_Mo_in s_Mo_in a_Mo_in (by decide) (Nat.le_of_ble_eq_true rfl) hq (fun r kd1 m9 hr => ?_)
    obtain ⟨x8, rfl, hk, hr⟩ := hr
    subst kd1
    have h := h x8 m9 hr
    show Ev (d + 1) M_Mo_number 0 0 103 [(2, v0), (0, v1), (0, v2), (0, v3)] [(0, x8)] kd m9 (zqI kd q)
    refine EvX.if_ne (off := 14) (tgt := 117) (by decide +kernel) (by decide) (fun hc => ?_) (fun hc => ?_)
    · have h := h.1 hc
      refine EvX.blk (pc' := 118) [(.iload_n 3, 0, 0)] (by decide +kernel) trivial ?_
      show Ev (d + 1) M_Mo_number 0 0 118 [(2, v0), (0, v1), (0, v2), (0, v3)] [(0, v3)] kd m9 (zqI kd q)
      exact EvX.ret (r := (0, v3)) (by decide +kernel) rfl ⟨_, rfl, rfl, h⟩
    · have h := h.2 hc
      obtain ⟨o1, h⟩ := h
      refine EvX.blk (pc' := 112) [(.aload_n 0, 0, 0), (.iconst 2, 0, 0), (.aload_n 0, 0, 0), (.getfield 114, 8, 11)] (by decide +kernel) ⟨g_Mo_114, trivial⟩ ⟨o1, ?_⟩
      show Ev (d + 1) M_Mo_number 0 0 112 [(2, v0), (0, v1), (0, v2), (0, v3)] [(0, m9 v0 11), (0, 2), (2, v0)] kd m9 (zqI kd q)
      obtain ⟨ov, h⟩ := h
      obtain ⟨q10, hq, h⟩ := h
      refine EvX.callV (c := 8) (mc := 0) (ms := 0) (as := [(0, 2), (0, m9 v0 11)]) (st := []) (by decide +kernel) l_Mo_110 k_Mo_fails v_Mo_fails a_Mo_fails (by decide) (Nat.le_of_ble_eq_true rfl) rfl ov hq (fun r kd1 m12 hr => ?_)
      obtain ⟨rfl, hk, hr⟩ := hr
      subst kd1
      have h := h m12 hr
      show Ev (d + 1) M_Mo_number 0 0 115 [(2, v0), (0, v1), (0, v2), (0, v3)] [] kd m12 (zqI kd q)
      refine EvX.blk (pc' := 116) [(.iload_n 1, 0, 0)] (by decide +kernel) trivial ?_
      show Ev (d + 1) M_Mo_number 0 0 116 [(2, v0), (0, v1), (0, v2), (0, v3)] [(0, v1)] kd m12 (zqI kd q)
      exact EvX.ret (r := (0, v1)) (by decide +kernel) rfl ⟨_, rfl, rfl, h⟩
  · have h := h.2 hc
    refine EvX.blk (pc' := 70) [(.sipush 1000, 0, 0), (.bipush 10, 0, 0), (.iload_n 3, 0, 0), (.imul, 0, 0), (.aload_n 0, 0, 0)] (by decide +kernel) trivial ?_
    show Ev (d + 1) M_Mo_number 0 0 70 [(2, v0), (0, v1), (0, v2), (0, v3)] [(2, v0), (0, iw (10 * v3)), (0, 1000)] kd m6 (zqI kd q)
    obtain ⟨ov, h⟩ := h
    obtain ⟨q13, hq, h⟩ := h
    refine EvX.callV (c := 8) (mc := 0) (ms := 0) (as := []) (st := [(0, iw (10 * v3)), (0, 1000)]) (by decide +kernel) l_Mo_75 k_Mo_sign_0 v_Mo_sign_0 a_Mo_sign_0 (by decide) (Nat.le_of_ble_eq_true rfl) rfl ov hq (fun r kd1 m15 hr => ?_)
    obtain ⟨x14, rfl, hk, hr⟩ := hr
    subst kd1
    have h := h x14 m15 hr
    show Ev (d + 1) M_Mo_number 0 0 73 [(2, v0), (0, v1), (0, v2), (0, v3)] [(0, x14), (0, iw (10 * v3)), (0, 1000)] kd m15 (zqI kd q)
    refine EvX.blk (pc' := 77) [(.iadd, 0, 0), (.bipush 48, 0, 0), (.isub, 0, 0)] (by decide +kernel) trivial ?_
    show Ev (d + 1) M_Mo_number 0 0 77 [(2, v0), (0, v1), (0, v2), (0, v3)] [(0, iw ((iw ((iw (10 * v3)) + x14)) - 48)), (0, 1000)] kd m15 (zqI kd q)
    refine EvX.mmin' (by decide +kernel) y_Mo_117 (Nat.le_of_ble_eq_true rfl) ?_
    show Ev (d + 1) M_Mo_number 0 0 80 [(2, v0), (0, v1), (0, v2), (0, v3)] [(0, zmin 1000 (iw ((iw ((iw (10 * v3)) + x14)) - 48)))] kd m15 (zqI kd q)
    obtain ⟨o1, o2, h⟩ := h
    refine EvX.blk (pc' := 91) [(.istore_n 3, 0, 0), (.aload_n 0, 0, 0), (.dup, 0, 0), (.getfield 72, 8, 9), (.iconst 1, 0, 0), (.iadd, 0, 0), (.putfield 72, 8, 9)] (by decide +kernel) ⟨g_Mo_72, ⟨g_Mo_72, p_Mo_72⟩, trivial⟩ ⟨o1, rfl, o2, ?_⟩
    show Ev (d + 1) M_Mo_number 0 0 91 [(2, v0), (0, v1), (0, v2), (0, zmin 1000 (iw ((iw ((iw (10 * v3)) + x14)) - 48)))] [] kd (zup m15 v0 9 (iw ((m15 v0 9) + 1))) (zqI kd q)
    refine EvX.goto (off := (-46)) (tgt := 45) (by decide +kernel) (by decide) ?_
    exact h
set_option maxRecDepth 20000 in
set_option maxHeartbeats 1000000 in
theorem T_Mo_readsWins_0 {d : Nat} {kd : ZK} {m : ZM} {q : ZM → Prop} {v0 v1 v2 v3 v4 v5 v6 : Int} (h : (Ev (d + 1) M_Mo_readsWins 0 0 3 [(2, v0), (0, v1), (0, v2), (0, v3), (0, v4), (0, v5), (0, v6), (0, 0), zJ, zJ] [] kd m (zqV kd q))) : Ev (d + 1) M_Mo_readsWins 0 0 0 [(2, v0), (0, v1), (0, v2), (0, v3), (0, v4), (0, v5), (0, v6), zJ, zJ, zJ] [] kd m (zqV kd q) := by
  refine EvX.blk (pc' := 3) [(.iconst 0, 0, 0), (.istore 7, 0, 0)] (by decide +kernel) trivial ?_
  show Ev (d + 1) M_Mo_readsWins 0 0 3 [(2, v0), (0, v1), (0, v2), (0, v3), (0, v4), (0, v5), (0, v6), (0, 0), zJ, zJ] [] kd m (zqV kd q)
  exact h
theorem S_Mo_readsWins {d : Nat} {kd : ZK} {m : ZM} {q : ZM → Prop} {v0 v1 v2 v3 v4 v5 v6 : Int} (h : (Ev (d + 1) M_Mo_readsWins 0 0 3 [(2, v0), (0, v1), (0, v2), (0, v3), (0, v4), (0, v5), (0, v6), (0, 0), zJ, zJ] [] kd m (zqV kd q))) : CtV (d + 1) M_Mo_readsWins [(2, v0), (0, v1), (0, v2), (0, v3), (0, v4), (0, v5), (0, v6)] kd m q :=
  Ct.start k_Mo_readsWins (Nat.le_of_ble_eq_true rfl) ⟨0, Or.inl ⟨rfl, rfl⟩⟩ (T_Mo_readsWins_0 h)
set_option maxRecDepth 20000 in
set_option maxHeartbeats 1000000 in
theorem T_Mo_readsWins_3 {d : Nat} {kd : ZK} {m : ZM} {q : ZM → Prop} {v0 v1 v2 v3 v4 v5 v6 v7 : Int} (h : (zobj kd v0 8 ∧ zIn kd (m v0 1) 0 2 ∧ (((m (m v0 1) 2) ≤ v7 → q m) ∧ (¬ (m (m v0 1) 2) ≤ v7 → (Ev (d + 1) M_Mo_readsWins 0 0 17 [(2, v0), (0, v1), (0, v2), (0, v3), (0, v4), (0, v5), (0, v6), (0, v7), (0, 0), zJ] [] kd m (zqV kd q)))))) : Ev (d + 1) M_Mo_readsWins 0 0 3 [(2, v0), (0, v1), (0, v2), (0, v3), (0, v4), (0, v5), (0, v6), (0, v7), zJ, zJ] [] kd m (zqV kd q) := by
  obtain ⟨o1, o2, h⟩ := h
  refine EvX.blk (pc' := 11) [(.iload 7, 0, 0), (.aload_n 0, 0, 0), (.getfield 13, 8, 1), (.iconst 2, 0, 0), (.iaload, 0, 0)] (by decide +kernel) ⟨g_Mo_13, trivial⟩ ⟨o1, o2, ?_⟩
  show Ev (d + 1) M_Mo_readsWins 0 0 11 [(2, v0), (0, v1), (0, v2), (0, v3), (0, v4), (0, v5), (0, v6), (0, v7), zJ, zJ] [(0, m (m v0 1) 2), (0, v7)] kd m (zqV kd q)
  refine EvX.icmp_ge (off := 120) (tgt := 131) (by decide +kernel) (by decide) (fun hc => ?_) (fun hc => ?_)
  · have h := h.1 hc
    exact EvX.ret (r := zJ) (by decide +kernel) rfl ⟨rfl, rfl, h⟩
  · have h := h.2 hc
    refine EvX.blk (pc' := 17) [(.iconst 0, 0, 0), (.istore 8, 0, 0)] (by decide +kernel) trivial ?_
    show Ev (d + 1) M_Mo_readsWins 0 0 17 [(2, v0), (0, v1), (0, v2), (0, v3), (0, v4), (0, v5), (0, v6), (0, v7), (0, 0), zJ] [] kd m (zqV kd q)
    exact h
set_option maxRecDepth 20000 in
set_option maxHeartbeats 1000000 in
theorem T_Mo_readsWins_17 {d : Nat} {kd : ZK} {m : ZM} {q : ZM → Prop} {v0 v1 v2 v3 v4 v5 v6 v7 v8 : Int} (h : (zobj kd v0 8 ∧ zIn kd (m v0 1) 0 3 ∧ (((m (m v0 1) 3) ≤ v8 → (Ev (d + 1) M_Mo_readsWins 0 0 3 [(2, v0), (0, v1), (0, v2), (0, v3), (0, v4), (0, v5), (0, v6), (0, iw (v7 + 1)), zJ, zJ] [] kd m (zqV kd q))) ∧ (¬ (m (m v0 1) 3) ≤ v8 → ((v1 = 0 → (Ev (d + 1) M_Mo_readsWins 0 0 42 [(2, v0), (0, v1), (0, v2), (0, v3), (0, v4), (0, v5), (0, v6), (0, v7), (0, v8), zJ] [] kd m (zqV kd q))) ∧ (¬ v1 = 0 → (((Int.tmod (iw (v7 + v8)) 2) = 0 → (Ev (d + 1) M_Mo_readsWins 0 0 85 [(2, v0), (0, v1), (0, v2), (0, v3), (0, v4), (0, v5), (0, v6), (0, v7), (0, v8), zJ] [(0, 1)] kd m (zqV kd q))) ∧ (¬ (Int.tmod (iw (v7 + v8)) 2) = 0 → (Ev (d + 1) M_Mo_readsWins 0 0 42 [(2, v0), (0, v1), (0, v2), (0, v3), (0, v4), (0, v5), (0, v6), (0, v7), (0, v8), zJ] [] kd m (zqV kd q)))))))))) : Ev (d + 1) M_Mo_readsWins 0 0 17 [(2, v0), (0, v1), (0, v2), (0, v3), (0, v4), (0, v5), (0, v6), (0, v7), (0, v8), zJ] [] kd m (zqV kd q) := by
  obtain ⟨o1, o2, h⟩ := h
  refine EvX.blk (pc' := 25) [(.iload 8, 0, 0), (.aload_n 0, 0, 0), (.getfield 13, 8, 1), (.iconst 3, 0, 0), (.iaload, 0, 0)] (by decide +kernel) ⟨g_Mo_13, trivial⟩ ⟨o1, o2, ?_⟩
  show Ev (d + 1) M_Mo_readsWins 0 0 25 [(2, v0), (0, v1), (0, v2), (0, v3), (0, v4), (0, v5), (0, v6), (0, v7), (0, v8), zJ] [(0, m (m v0 1) 3), (0, v8)] kd m (zqV kd q)
  refine EvX.icmp_ge (off := 100) (tgt := 125) (by decide +kernel) (by decide) (fun hc => ?_) (fun hc => ?_)
  · have h := h.1 hc
    refine EvX.blk (pc' := 128) [(.iinc 7 1, 0, 0)] (by decide +kernel) trivial ?_
    show Ev (d + 1) M_Mo_readsWins 0 0 128 [(2, v0), (0, v1), (0, v2), (0, v3), (0, v4), (0, v5), (0, v6), (0, iw (v7 + 1)), (0, v8), zJ] [] kd m (zqV kd q)
    refine EvX.goto (off := (-125)) (tgt := 3) (by decide +kernel) (by decide) ?_
    exact EvX.weak (ls2 := [(2, v0), (0, v1), (0, v2), (0, v3), (0, v4), (0, v5), (0, v6), (0, iw (v7 + 1)), zJ, zJ]) (zwk_of ⟨Or.inr rfl, Or.inr rfl, Or.inr rfl, Or.inr rfl, Or.inr rfl, Or.inr rfl, Or.inr rfl, Or.inr rfl, Or.inl rfl, Or.inl rfl, trivial⟩) h
  · have h := h.2 hc
    refine EvX.blk (pc' := 29) [(.iload_n 1, 0, 0)] (by decide +kernel) trivial ?_
    show Ev (d + 1) M_Mo_readsWins 0 0 29 [(2, v0), (0, v1), (0, v2), (0, v3), (0, v4), (0, v5), (0, v6), (0, v7), (0, v8), zJ] [(0, v1)] kd m (zqV kd q)
    refine EvX.if_eq (off := 13) (tgt := 42) (by decide +kernel) (by decide) (fun hc => ?_) (fun hc => ?_)
    · have h := h.1 hc
      exact h
    · have h := h.2 hc
      refine EvX.blk (pc' := 39) [(.iload 7, 0, 0), (.iload 8, 0, 0), (.iadd, 0, 0), (.iconst 2, 0, 0), (.irem, 0, 0)] (by decide +kernel) trivial ⟨by decide, ?_⟩
      show Ev (d + 1) M_Mo_readsWins 0 0 39 [(2, v0), (0, v1), (0, v2), (0, v3), (0, v4), (0, v5), (0, v6), (0, v7), (0, v8), zJ] [(0, Int.tmod (iw (v7 + v8)) 2)] kd m (zqV kd q)
      refine EvX.if_eq (off := 41) (tgt := 80) (by decide +kernel) (by decide) (fun hc => ?_) (fun hc => ?_)
      · have h := h.1 hc
        refine EvX.blk (pc' := 81) [(.iconst 1, 0, 0)] (by decide +kernel) trivial ?_
        show Ev (d + 1) M_Mo_readsWins 0 0 81 [(2, v0), (0, v1), (0, v2), (0, v3), (0, v4), (0, v5), (0, v6), (0, v7), (0, v8), zJ] [(0, 1)] kd m (zqV kd q)
        refine EvX.goto (off := 4) (tgt := 85) (by decide +kernel) (by decide) ?_
        exact h
      · have h := h.2 hc
        exact h
set_option maxRecDepth 20000 in
set_option maxHeartbeats 1000000 in
theorem T_Mo_readsWins_42 {d : Nat} {kd : ZK} {m : ZM} {q : ZM → Prop} {v0 v1 v2 v3 v4 v5 v6 v7 v8 : Int} (h : ((v2 = 0 → (Ev (d + 1) M_Mo_readsWins 0 0 57 [(2, v0), (0, v1), (0, v2), (0, v3), (0, v4), (0, v5), (0, v6), (0, v7), (0, v8), zJ] [] kd m (zqV kd q))) ∧ (¬ v2 = 0 → (((Int.tmod (iw (v7 + v8)) 2) = 1 → (Ev (d + 1) M_Mo_readsWins 0 0 85 [(2, v0), (0, v1), (0, v2), (0, v3), (0, v4), (0, v5), (0, v6), (0, v7), (0, v8), zJ] [(0, 1)] kd m (zqV kd q))) ∧ (¬ (Int.tmod (iw (v7 + v8)) 2) = 1 → (Ev (d + 1) M_Mo_readsWins 0 0 57 [(2, v0), (0, v1), (0, v2), (0, v3), (0, v4), (0, v5), (0, v6), (0, v7), (0, v8), zJ] [] kd m (zqV kd q))))))) : Ev (d + 1) M_Mo_readsWins 0 0 42 [(2, v0), (0, v1), (0, v2), (0, v3), (0, v4), (0, v5), (0, v6), (0, v7), (0, v8), zJ] [] kd m (zqV kd q) := by
  refine EvX.blk (pc' := 43) [(.iload_n 2, 0, 0)] (by decide +kernel) trivial ?_
  show Ev (d + 1) M_Mo_readsWins 0 0 43 [(2, v0), (0, v1), (0, v2), (0, v3), (0, v4), (0, v5), (0, v6), (0, v7), (0, v8), zJ] [(0, v2)] kd m (zqV kd q)
  refine EvX.if_eq (off := 14) (tgt := 57) (by decide +kernel) (by decide) (fun hc => ?_) (fun hc => ?_)
  · have h := h.1 hc
    exact h
  · have h := h.2 hc
    refine EvX.blk (pc' := 54) [(.iload 7, 0, 0), (.iload 8, 0, 0), (.iadd, 0, 0), (.iconst 2, 0, 0), (.irem, 0, 0), (.iconst 1, 0, 0)] (by decide +kernel) trivial ⟨by decide, ?_⟩
    show Ev (d + 1) M_Mo_readsWins 0 0 54 [(2, v0), (0, v1), (0, v2), (0, v3), (0, v4), (0, v5), (0, v6), (0, v7), (0, v8), zJ] [(0, 1), (0, Int.tmod (iw (v7 + v8)) 2)] kd m (zqV kd q)
    refine EvX.icmp_eq (off := 26) (tgt := 80) (by decide +kernel) (by decide) (fun hc => ?_) (fun hc => ?_)
    · have h := h.1 hc
      refine EvX.blk (pc' := 81) [(.iconst 1, 0, 0)] (by decide +kernel) trivial ?_
      show Ev (d + 1) M_Mo_readsWins 0 0 81 [(2, v0), (0, v1), (0, v2), (0, v3), (0, v4), (0, v5), (0, v6), (0, v7), (0, v8), zJ] [(0, 1)] kd m (zqV kd q)
      refine EvX.goto (off := 4) (tgt := 85) (by decide +kernel) (by decide) ?_
      exact h
    · have h := h.2 hc
      exact h
set_option maxRecDepth 20000 in
set_option maxHeartbeats 1000000 in
theorem T_Mo_readsWins_57 {d : Nat} {kd : ZK} {m : ZM} {q : ZM → Prop} {v0 v1 v2 v3 v4 v5 v6 v7 v8 : Int} (h : ((v3 = 0 → (Ev (d + 1) M_Mo_readsWins 0 0 68 [(2, v0), (0, v1), (0, v2), (0, v3), (0, v4), (0, v5), (0, v6), (0, v7), (0, v8), zJ] [] kd m (zqV kd q))) ∧ (¬ v3 = 0 → ((v7 = v8 → (Ev (d + 1) M_Mo_readsWins 0 0 85 [(2, v0), (0, v1), (0, v2), (0, v3), (0, v4), (0, v5), (0, v6), (0, v7), (0, v8), zJ] [(0, 1)] kd m (zqV kd q))) ∧ (¬ v7 = v8 → (Ev (d + 1) M_Mo_readsWins 0 0 68 [(2, v0), (0, v1), (0, v2), (0, v3), (0, v4), (0, v5), (0, v6), (0, v7), (0, v8), zJ] [] kd m (zqV kd q))))))) : Ev (d + 1) M_Mo_readsWins 0 0 57 [(2, v0), (0, v1), (0, v2), (0, v3), (0, v4), (0, v5), (0, v6), (0, v7), (0, v8), zJ] [] kd m (zqV kd q) := by
  refine EvX.blk (pc' := 58) [(.iload_n 3, 0, 0)] (by decide +kernel) trivial ?_
  show Ev (d + 1) M_Mo_readsWins 0 0 58 [(2, v0), (0, v1), (0, v2), (0, v3), (0, v4), (0, v5), (0, v6), (0, v7), (0, v8), zJ] [(0, v3)] kd m (zqV kd q)
  refine EvX.if_eq (off := 10) (tgt := 68) (by decide +kernel) (by decide) (fun hc => ?_) (fun hc => ?_)
  · have h := h.1 hc
    exact h
  · have h := h.2 hc
    refine EvX.blk (pc' := 65) [(.iload 7, 0, 0), (.iload 8, 0, 0)] (by decide +kernel) trivial ?_
    show Ev (d + 1) M_Mo_readsWins 0 0 65 [(2, v0), (0, v1), (0, v2), (0, v3), (0, v4), (0, v5), (0, v6), (0, v7), (0, v8), zJ] [(0, v8), (0, v7)] kd m (zqV kd q)
    refine EvX.icmp_eq (off := 15) (tgt := 80) (by decide +kernel) (by decide) (fun hc => ?_) (fun hc => ?_)
    · have h := h.1 hc
      refine EvX.blk (pc' := 81) [(.iconst 1, 0, 0)] (by decide +kernel) trivial ?_
      show Ev (d + 1) M_Mo_readsWins 0 0 81 [(2, v0), (0, v1), (0, v2), (0, v3), (0, v4), (0, v5), (0, v6), (0, v7), (0, v8), zJ] [(0, 1)] kd m (zqV kd q)
      refine EvX.goto (off := 4) (tgt := 85) (by decide +kernel) (by decide) ?_
      exact h
    · have h := h.2 hc
      exact h
set_option maxRecDepth 20000 in
set_option maxHeartbeats 1000000 in
theorem T_Mo_readsWins_68 {d : Nat} {kd : ZK} {m : ZM} {q : ZM → Prop} {v0 v1 v2 v3 v4 v5 v6 v7 v8 : Int} (h : ((v4 = 0 → (Ev (d + 1) M_Mo_readsWins 0 0 85 [(2, v0), (0, v1), (0, v2), (0, v3), (0, v4), (0, v5), (0, v6), (0, v7), (0, v8), zJ] [(0, 0)] kd m (zqV kd q))) ∧ (¬ v4 = 0 → ((v7 = v8 → (Ev (d + 1) M_Mo_readsWins 0 0 85 [(2, v0), (0, v1), (0, v2), (0, v3), (0, v4), (0, v5), (0, v6), (0, v7), (0, v8), zJ] [(0, 0)] kd m (zqV kd q))) ∧ (¬ v7 = v8 → (Ev (d + 1) M_Mo_readsWins 0 0 85 [(2, v0), (0, v1), (0, v2), (0, v3), (0, v4), (0, v5), (0, v6), (0, v7), (0, v8), zJ] [(0, 1)] kd m (zqV kd q))))))) : Ev (d + 1) M_Mo_readsWins 0 0 68 [(2, v0), (0, v1), (0, v2), (0, v3), (0, v4), (0, v5), (0, v6), (0, v7), (0, v8), zJ] [] kd m (zqV kd q) := by
  refine EvX.blk (pc' := 70) [(.iload 4, 0, 0)] (by decide +kernel) trivial ?_
  show Ev (d + 1) M_Mo_readsWins 0 0 70 [(2, v0), (0, v1), (0, v2), (0, v3), (0, v4), (0, v5), (0, v6), (0, v7), (0, v8), zJ] [(0, v4)] kd m (zqV kd q)
  refine EvX.if_eq (off := 14) (tgt := 84) (by decide +kernel) (by decide) (fun hc => ?_) (fun hc => ?_)
  · have h := h.1 hc
    refine EvX.blk (pc' := 85) [(.iconst 0, 0, 0)] (by decide +kernel) trivial ?_
    show Ev (d + 1) M_Mo_readsWins 0 0 85 [(2, v0), (0, v1), (0, v2), (0, v3), (0, v4), (0, v5), (0, v6), (0, v7), (0, v8), zJ] [(0, 0)] kd m (zqV kd q)
    exact h
  · have h := h.2 hc
    refine EvX.blk (pc' := 77) [(.iload 7, 0, 0), (.iload 8, 0, 0)] (by decide +kernel) trivial ?_
    show Ev (d + 1) M_Mo_readsWins 0 0 77 [(2, v0), (0, v1), (0, v2), (0, v3), (0, v4), (0, v5), (0, v6), (0, v7), (0, v8), zJ] [(0, v8), (0, v7)] kd m (zqV kd q)
    refine EvX.icmp_eq (off := 7) (tgt := 84) (by decide +kernel) (by decide) (fun hc => ?_) (fun hc => ?_)
    · have h := h.1 hc
      refine EvX.blk (pc' := 85) [(.iconst 0, 0, 0)] (by decide +kernel) trivial ?_
      show Ev (d + 1) M_Mo_readsWins 0 0 85 [(2, v0), (0, v1), (0, v2), (0, v3), (0, v4), (0, v5), (0, v6), (0, v7), (0, v8), zJ] [(0, 0)] kd m (zqV kd q)
      exact h
    · have h := h.2 hc
      refine EvX.blk (pc' := 81) [(.iconst 1, 0, 0)] (by decide +kernel) trivial ?_
      show Ev (d + 1) M_Mo_readsWins 0 0 81 [(2, v0), (0, v1), (0, v2), (0, v3), (0, v4), (0, v5), (0, v6), (0, v7), (0, v8), zJ] [(0, 1)] kd m (zqV kd q)
      refine EvX.goto (off := 4) (tgt := 85) (by decide +kernel) (by decide) ?_
      exact h
set_option maxRecDepth 20000 in
set_option maxHeartbeats 1000000 in
theorem T_Mo_readsWins_85 {d : Nat} {kd : ZK} {m : ZM} {q : ZM → Prop} {v0 v1 v2 v3 v4 v5 v6 v7 v8 s0 : Int} (h : ((s0 = 0 → (Ev (d + 1) M_Mo_readsWins 0 0 17 [(2, v0), (0, v1), (0, v2), (0, v3), (0, v4), (0, v5), (0, v6), (0, v7), (0, iw (v8 + 1)), zJ] [] kd m (zqV kd q))) ∧ (¬ s0 = 0 → (zobj kd v0 8 ∧ ∃ q1, CtI d M_Mo_isRight [(2, v0)] kd m q1 ∧ ∀ x2 m3, q1 x2 m3 → ((x2 = 0 → (Ev (d + 1) M_Mo_readsWins 0 0 17 [(2, v0), (0, v1), (0, v2), (0, v3), (0, v4), (0, v5), (0, v6), (0, v7), (0, iw (v8 + 1)), zJ] [] kd m3 (zqV kd q))) ∧ (¬ x2 = 0 → (zobj kd v0 8 ∧ (∃ q4, CtI d M_Mo_fourOf [(0, v5), (0, v6), (0, v7), (0, v8)] kd m3 q4 ∧ ∀ x5 m6, q4 x5 m6 → (zIn kd (m3 v0 1) 0 (iw (29 + x5)) ∧ (Ev (d + 1) M_Mo_readsWins 0 0 17 [(2, v0), (0, v1), (0, v2), (0, v3), (0, v4), (0, v5), (0, v6), (0, v7), (0, iw (v8 + 1)), zJ] [] kd (zup m6 (m3 v0 1) (iw (29 + x5)) 1) (zqV kd q))))))))))) : Ev (d + 1) M_Mo_readsWins 0 0 85 [(2, v0), (0, v1), (0, v2), (0, v3), (0, v4), (0, v5), (0, v6), (0, v7), (0, v8), zJ] [(0, s0)] kd m (zqV kd q) := by
  refine EvX.blk (pc' := 89) [(.istore 9, 0, 0), (.iload 9, 0, 0)] (by decide +kernel) trivial ?_
  show Ev (d + 1) M_Mo_readsWins 0 0 89 [(2, v0), (0, v1), (0, v2), (0, v3), (0, v4), (0, v5), (0, v6), (0, v7), (0, v8), (0, s0)] [(0, s0)] kd m (zqV kd q)
  refine EvX.if_eq (off := 30) (tgt := 119) (by decide +kernel) (by decide) (fun hc => ?_) (fun hc => ?_)
  · have h := h.1 hc
    refine EvX.blk (pc' := 122) [(.iinc 8 1, 0, 0)] (by decide +kernel) trivial ?_
    show Ev (d + 1) M_Mo_readsWins 0 0 122 [(2, v0), (0, v1), (0, v2), (0, v3), (0, v4), (0, v5), (0, v6), (0, v7), (0, iw (v8 + 1)), (0, s0)] [] kd m (zqV kd q)
    refine EvX.goto (off := (-105)) (tgt := 17) (by decide +kernel) (by decide) ?_
    exact EvX.weak (ls2 := [(2, v0), (0, v1), (0, v2), (0, v3), (0, v4), (0, v5), (0, v6), (0, v7), (0, iw (v8 + 1)), zJ]) (zwk_of ⟨Or.inr rfl, Or.inr rfl, Or.inr rfl, Or.inr rfl, Or.inr rfl, Or.inr rfl, Or.inr rfl, Or.inr rfl, Or.inr rfl, Or.inl rfl, trivial⟩) h
  · have h := h.2 hc
    refine EvX.blk (pc' := 93) [(.aload_n 0, 0, 0)] (by decide +kernel) trivial ?_
    show Ev (d + 1) M_Mo_readsWins 0 0 93 [(2, v0), (0, v1), (0, v2), (0, v3), (0, v4), (0, v5), (0, v6), (0, v7), (0, v8), (0, s0)] [(2, v0)] kd m (zqV kd q)
    obtain ⟨ov, h⟩ := h
    obtain ⟨q1, hq, h⟩ := h
    refine EvX.callV (c := 8) (mc := 0) (ms := 0) (as := []) (st := []) (by decide +kernel) l_Mo_82 k_Mo_isRight v_Mo_isRight a_Mo_isRight (by decide) (Nat.le_of_ble_eq_true rfl) rfl ov hq (fun r kd1 m3 hr => ?_)
    obtain ⟨x2, rfl, hk, hr⟩ := hr
    subst kd1
    have h := h x2 m3 hr
    show Ev (d + 1) M_Mo_readsWins 0 0 96 [(2, v0), (0, v1), (0, v2), (0, v3), (0, v4), (0, v5), (0, v6), (0, v7), (0, v8), (0, s0)] [(0, x2)] kd m3 (zqV kd q)
    refine EvX.if_eq (off := 23) (tgt := 119) (by decide +kernel) (by decide) (fun hc => ?_) (fun hc => ?_)
    · have h := h.1 hc
      refine EvX.blk (pc' := 122) [(.iinc 8 1, 0, 0)] (by decide +kernel) trivial ?_
      show Ev (d + 1) M_Mo_readsWins 0 0 122 [(2, v0), (0, v1), (0, v2), (0, v3), (0, v4), (0, v5), (0, v6), (0, v7), (0, iw (v8 + 1)), (0, s0)] [] kd m3 (zqV kd q)
      refine EvX.goto (off := (-105)) (tgt := 17) (by decide +kernel) (by decide) ?_
      exact EvX.weak (ls2 := [(2, v0), (0, v1), (0, v2), (0, v3), (0, v4), (0, v5), (0, v6), (0, v7), (0, iw (v8 + 1)), zJ]) (zwk_of ⟨Or.inr rfl, Or.inr rfl, Or.inr rfl, Or.inr rfl, Or.inr rfl, Or.inr rfl, Or.inr rfl, Or.inr rfl, Or.inr rfl, Or.inl rfl, trivial⟩) h
    · have h := h.2 hc
      obtain ⟨o1, h⟩ := h
      refine EvX.blk (pc' := 113) [(.aload_n 0, 0, 0), (.getfield 13, 8, 1), (.bipush 29, 0, 0), (.iload 5, 0, 0), (.iload 6, 0, 0), (.iload 7, 0, 0), (.iload 8, 0, 0)] (by decide +kernel) ⟨g_Mo_13, trivial⟩ ⟨o1, ?_⟩
      show Ev (d + 1) M_Mo_readsWins 0 0 113 [(2, v0), (0, v1), (0, v2), (0, v3), (0, v4), (0, v5), (0, v6), (0, v7), (0, v8), (0, s0)] [(0, v8), (0, v7), (0, v6), (0, v5), (0, 29), (2, m3 v0 1)] kd m3 (zqV kd q)
      obtain ⟨q4, hq, h⟩ := h
      refine EvX.callS (mc := 0) (ms := 0) (as := [(0, v5), (0, v6), (0, v7), (0, v8)]) (st := [(0, 29), (2, m3 v0 1)]) (by decide +kernel) l_Mo_122 k_Mo_fourOf s_Mo_fourOf a_Mo_fourOf (by decide) (Nat.le_of_ble_eq_true rfl) hq (fun r kd1 m6 hr => ?_)
      obtain ⟨x5, rfl, hk, hr⟩ := hr
      subst kd1
      have h := h x5 m6 hr
      show Ev (d + 1) M_Mo_readsWins 0 0 116 [(2, v0), (0, v1), (0, v2), (0, v3), (0, v4), (0, v5), (0, v6), (0, v7), (0, v8), (0, s0)] [(0, x5), (0, 29), (2, m3 v0 1)] kd m6 (zqV kd q)
      obtain ⟨o1, h⟩ := h
      refine EvX.blk (pc' := 122) [(.iadd, 0, 0), (.iconst 1, 0, 0), (.iastore, 0, 0), (.iinc 8 1, 0, 0)] (by decide +kernel) trivial ⟨o1, ?_⟩
      show Ev (d + 1) M_Mo_readsWins 0 0 122 [(2, v0), (0, v1), (0, v2), (0, v3), (0, v4), (0, v5), (0, v6), (0, v7), (0, iw (v8 + 1)), (0, s0)] [] kd (zup m6 (m3 v0 1) (iw (29 + x5)) 1) (zqV kd q)
      refine EvX.goto (off := (-105)) (tgt := 17) (by decide +kernel) (by decide) ?_
      exact EvX.weak (ls2 := [(2, v0), (0, v1), (0, v2), (0, v3), (0, v4), (0, v5), (0, v6), (0, v7), (0, iw (v8 + 1)), zJ]) (zwk_of ⟨Or.inr rfl, Or.inr rfl, Or.inr rfl, Or.inr rfl, Or.inr rfl, Or.inr rfl, Or.inr rfl, Or.inr rfl, Or.inr rfl, Or.inl rfl, trivial⟩) h
set_option maxRecDepth 20000 in
set_option maxHeartbeats 1000000 in
theorem T_Mo_readsPart_0 {d : Nat} {kd : ZK} {m : ZM} {q : ZM → Prop} {v0 : Int} (h : (zobj kd v0 8 ∧ ∃ q1, CtI d M_Mo_takes [(2, v0), (3, 1)] kd m q1 ∧ ∀ x2 m3, q1 x2 m3 → ((x2 ≠ 0 → (Ev (d + 1) M_Mo_readsPart 0 0 25 [(2, v0), (0, x2), zJ, zJ, zJ, zJ, zJ, zJ, zJ, zJ, zJ, zJ, zJ] [(0, 0)] kd m3 (zqV kd q))) ∧ (¬ x2 ≠ 0 → (zobj kd v0 8 ∧ ∃ q4, CtI d M_Mo_takes [(2, v0), (3, 2)] kd m3 q4 ∧ ∀ x5 m6, q4 x5 m6 → ((x5 = 0 → (Ev (d + 1) M_Mo_readsPart 0 0 25 [(2, v0), (0, x2), zJ, zJ, zJ, zJ, zJ, zJ, zJ, zJ, zJ, zJ, zJ] [(0, 0)] kd m6 (zqV kd q))) ∧ (¬ x5 = 0 → (Ev (d + 1) M_Mo_readsPart 0 0 25 [(2, v0), (0, x2), zJ, zJ, zJ, zJ, zJ, zJ, zJ, zJ, zJ, zJ, zJ] [(0, 1)] kd m6 (zqV kd q))))))))) : Ev (d + 1) M_Mo_readsPart 0 0 0 [(2, v0), zJ, zJ, zJ, zJ, zJ, zJ, zJ, zJ, zJ, zJ, zJ, zJ] [] kd m (zqV kd q) := by
  refine EvX.blk (pc' := 3) [(.aload_n 0, 0, 0), (.ldc 126, 1, 1)] (by decide +kernel) ⟨z_Mo_126, trivial⟩ ?_
  show Ev (d + 1) M_Mo_readsPart 0 0 3 [(2, v0), zJ, zJ, zJ, zJ, zJ, zJ, zJ, zJ, zJ, zJ, zJ, zJ] [(3, 1), (2, v0)] kd m (zqV kd q)
  obtain ⟨ov, h⟩ := h
  obtain ⟨q1, hq, h⟩ := h
  refine EvX.callV (c := 8) (mc := 0) (ms := 0) (as := [(3, 1)]) (st := []) (by decide +kernel) l_Mo_128 k_Mo_takes v_Mo_takes a_Mo_takes (by decide) (Nat.le_of_ble_eq_true rfl) rfl ov hq (fun r kd1 m3 hr => ?_)
  obtain ⟨x2, rfl, hk, hr⟩ := hr
  subst kd1
  have h := h x2 m3 hr
  show Ev (d + 1) M_Mo_readsPart 0 0 6 [(2, v0), zJ, zJ, zJ, zJ, zJ, zJ, zJ, zJ, zJ, zJ, zJ, zJ] [(0, x2)] kd m3 (zqV kd q)
  refine EvX.blk (pc' := 8) [(.istore_n 1, 0, 0), (.iload_n 1, 0, 0)] (by decide +kernel) trivial ?_
  show Ev (d + 1) M_Mo_readsPart 0 0 8 [(2, v0), (0, x2), zJ, zJ, zJ, zJ, zJ, zJ, zJ, zJ, zJ, zJ, zJ] [(0, x2)] kd m3 (zqV kd q)
  refine EvX.if_ne (off := 16) (tgt := 24) (by decide +kernel) (by decide) (fun hc => ?_) (fun hc => ?_)
  · have h := h.1 hc
    refine EvX.blk (pc' := 25) [(.iconst 0, 0, 0)] (by decide +kernel) trivial ?_
    show Ev (d + 1) M_Mo_readsPart 0 0 25 [(2, v0), (0, x2), zJ, zJ, zJ, zJ, zJ, zJ, zJ, zJ, zJ, zJ, zJ] [(0, 0)] kd m3 (zqV kd q)
    exact h
  · have h := h.2 hc
    refine EvX.blk (pc' := 14) [(.aload_n 0, 0, 0), (.ldc 132, 1, 2)] (by decide +kernel) ⟨z_Mo_132, trivial⟩ ?_
    show Ev (d + 1) M_Mo_readsPart 0 0 14 [(2, v0), (0, x2), zJ, zJ, zJ, zJ, zJ, zJ, zJ, zJ, zJ, zJ, zJ] [(3, 2), (2, v0)] kd m3 (zqV kd q)
    obtain ⟨ov, h⟩ := h
    obtain ⟨q4, hq, h⟩ := h
    refine EvX.callV (c := 8) (mc := 0) (ms := 0) (as := [(3, 2)]) (st := []) (by decide +kernel) l_Mo_128 k_Mo_takes v_Mo_takes a_Mo_takes (by decide) (Nat.le_of_ble_eq_true rfl) rfl ov hq (fun r kd1 m6 hr => ?_)
    obtain ⟨x5, rfl, hk, hr⟩ := hr
    subst kd1
    have h := h x5 m6 hr
    show Ev (d + 1) M_Mo_readsPart 0 0 17 [(2, v0), (0, x2), zJ, zJ, zJ, zJ, zJ, zJ, zJ, zJ, zJ, zJ, zJ] [(0, x5)] kd m6 (zqV kd q)
    refine EvX.if_eq (off := 7) (tgt := 24) (by decide +kernel) (by decide) (fun hc => ?_) (fun hc => ?_)
    · have h := h.1 hc
      refine EvX.blk (pc' := 25) [(.iconst 0, 0, 0)] (by decide +kernel) trivial ?_
      show Ev (d + 1) M_Mo_readsPart 0 0 25 [(2, v0), (0, x2), zJ, zJ, zJ, zJ, zJ, zJ, zJ, zJ, zJ, zJ, zJ] [(0, 0)] kd m6 (zqV kd q)
      exact h
    · have h := h.2 hc
      refine EvX.blk (pc' := 21) [(.iconst 1, 0, 0)] (by decide +kernel) trivial ?_
      show Ev (d + 1) M_Mo_readsPart 0 0 21 [(2, v0), (0, x2), zJ, zJ, zJ, zJ, zJ, zJ, zJ, zJ, zJ, zJ, zJ] [(0, 1)] kd m6 (zqV kd q)
      refine EvX.goto (off := 4) (tgt := 25) (by decide +kernel) (by decide) ?_
      exact h
theorem S_Mo_readsPart {d : Nat} {kd : ZK} {m : ZM} {q : ZM → Prop} {v0 : Int} (h : (zobj kd v0 8 ∧ ∃ q1, CtI d M_Mo_takes [(2, v0), (3, 1)] kd m q1 ∧ ∀ x2 m3, q1 x2 m3 → ((x2 ≠ 0 → (Ev (d + 1) M_Mo_readsPart 0 0 25 [(2, v0), (0, x2), zJ, zJ, zJ, zJ, zJ, zJ, zJ, zJ, zJ, zJ, zJ] [(0, 0)] kd m3 (zqV kd q))) ∧ (¬ x2 ≠ 0 → (zobj kd v0 8 ∧ ∃ q4, CtI d M_Mo_takes [(2, v0), (3, 2)] kd m3 q4 ∧ ∀ x5 m6, q4 x5 m6 → ((x5 = 0 → (Ev (d + 1) M_Mo_readsPart 0 0 25 [(2, v0), (0, x2), zJ, zJ, zJ, zJ, zJ, zJ, zJ, zJ, zJ, zJ, zJ] [(0, 0)] kd m6 (zqV kd q))) ∧ (¬ x5 = 0 → (Ev (d + 1) M_Mo_readsPart 0 0 25 [(2, v0), (0, x2), zJ, zJ, zJ, zJ, zJ, zJ, zJ, zJ, zJ, zJ, zJ] [(0, 1)] kd m6 (zqV kd q))))))))) : CtV (d + 1) M_Mo_readsPart [(2, v0)] kd m q :=
  Ct.start k_Mo_readsPart (Nat.le_of_ble_eq_true rfl) ⟨0, Or.inl ⟨rfl, rfl⟩⟩ (T_Mo_readsPart_0 h)
set_option maxRecDepth 20000 in
set_option maxHeartbeats 1000000 in
theorem T_Mo_readsPart_25 {d : Nat} {kd : ZK} {m : ZM} {q : ZM → Prop} {v0 v1 s0 : Int} (h : ((v1 ≠ 0 → (Ev (d + 1) M_Mo_readsPart 0 0 48 [(2, v0), (0, v1), (0, s0), zJ, zJ, zJ, zJ, zJ, zJ, zJ, zJ, zJ, zJ] [(0, 0)] kd m (zqV kd q))) ∧ (¬ v1 ≠ 0 → ((s0 ≠ 0 → (Ev (d + 1) M_Mo_readsPart 0 0 48 [(2, v0), (0, v1), (0, s0), zJ, zJ, zJ, zJ, zJ, zJ, zJ, zJ, zJ, zJ] [(0, 0)] kd m (zqV kd q))) ∧ (¬ s0 ≠ 0 → (zobj kd v0 8 ∧ ∃ q1, CtI d M_Mo_takes [(2, v0), (3, 3)] kd m q1 ∧ ∀ x2 m3, q1 x2 m3 → ((x2 = 0 → (Ev (d + 1) M_Mo_readsPart 0 0 48 [(2, v0), (0, v1), (0, s0), zJ, zJ, zJ, zJ, zJ, zJ, zJ, zJ, zJ, zJ] [(0, 0)] kd m3 (zqV kd q))) ∧ (¬ x2 = 0 → (Ev (d + 1) M_Mo_readsPart 0 0 48 [(2, v0), (0, v1), (0, s0), zJ, zJ, zJ, zJ, zJ, zJ, zJ, zJ, zJ, zJ] [(0, 1)] kd m3 (zqV kd q)))))))))) : Ev (d + 1) M_Mo_readsPart 0 0 25 [(2, v0), (0, v1), zJ, zJ, zJ, zJ, zJ, zJ, zJ, zJ, zJ, zJ, zJ] [(0, s0)] kd m (zqV kd q) := by
  refine EvX.blk (pc' := 27) [(.istore_n 2, 0, 0), (.iload_n 1, 0, 0)] (by decide +kernel) trivial ?_
  show Ev (d + 1) M_Mo_readsPart 0 0 27 [(2, v0), (0, v1), (0, s0), zJ, zJ, zJ, zJ, zJ, zJ, zJ, zJ, zJ, zJ] [(0, v1)] kd m (zqV kd q)
  refine EvX.if_ne (off := 20) (tgt := 47) (by decide +kernel) (by decide) (fun hc => ?_) (fun hc => ?_)
  · have h := h.1 hc
    refine EvX.blk (pc' := 48) [(.iconst 0, 0, 0)] (by decide +kernel) trivial ?_
    show Ev (d + 1) M_Mo_readsPart 0 0 48 [(2, v0), (0, v1), (0, s0), zJ, zJ, zJ, zJ, zJ, zJ, zJ, zJ, zJ, zJ] [(0, 0)] kd m (zqV kd q)
    exact h
  · have h := h.2 hc
    refine EvX.blk (pc' := 31) [(.iload_n 2, 0, 0)] (by decide +kernel) trivial ?_
    show Ev (d + 1) M_Mo_readsPart 0 0 31 [(2, v0), (0, v1), (0, s0), zJ, zJ, zJ, zJ, zJ, zJ, zJ, zJ, zJ, zJ] [(0, s0)] kd m (zqV kd q)
    refine EvX.if_ne (off := 16) (tgt := 47) (by decide +kernel) (by decide) (fun hc => ?_) (fun hc => ?_)
    · have h := h.1 hc
      refine EvX.blk (pc' := 48) [(.iconst 0, 0, 0)] (by decide +kernel) trivial ?_
      show Ev (d + 1) M_Mo_readsPart 0 0 48 [(2, v0), (0, v1), (0, s0), zJ, zJ, zJ, zJ, zJ, zJ, zJ, zJ, zJ, zJ] [(0, 0)] kd m (zqV kd q)
      exact h
    · have h := h.2 hc
      refine EvX.blk (pc' := 37) [(.aload_n 0, 0, 0), (.ldc 134, 1, 3)] (by decide +kernel) ⟨z_Mo_134, trivial⟩ ?_
      show Ev (d + 1) M_Mo_readsPart 0 0 37 [(2, v0), (0, v1), (0, s0), zJ, zJ, zJ, zJ, zJ, zJ, zJ, zJ, zJ, zJ] [(3, 3), (2, v0)] kd m (zqV kd q)
      obtain ⟨ov, h⟩ := h
      obtain ⟨q1, hq, h⟩ := h
      refine EvX.callV (c := 8) (mc := 0) (ms := 0) (as := [(3, 3)]) (st := []) (by decide +kernel) l_Mo_128 k_Mo_takes v_Mo_takes a_Mo_takes (by decide) (Nat.le_of_ble_eq_true rfl) rfl ov hq (fun r kd1 m3 hr => ?_)
      obtain ⟨x2, rfl, hk, hr⟩ := hr
      subst kd1
      have h := h x2 m3 hr
      show Ev (d + 1) M_Mo_readsPart 0 0 40 [(2, v0), (0, v1), (0, s0), zJ, zJ, zJ, zJ, zJ, zJ, zJ, zJ, zJ, zJ] [(0, x2)] kd m3 (zqV kd q)
      refine EvX.if_eq (off := 7) (tgt := 47) (by decide +kernel) (by decide) (fun hc => ?_) (fun hc => ?_)
      · have h := h.1 hc
        refine EvX.blk (pc' := 48) [(.iconst 0, 0, 0)] (by decide +kernel) trivial ?_
        show Ev (d + 1) M_Mo_readsPart 0 0 48 [(2, v0), (0, v1), (0, s0), zJ, zJ, zJ, zJ, zJ, zJ, zJ, zJ, zJ, zJ] [(0, 0)] kd m3 (zqV kd q)
        exact h
      · have h := h.2 hc
        refine EvX.blk (pc' := 44) [(.iconst 1, 0, 0)] (by decide +kernel) trivial ?_
        show Ev (d + 1) M_Mo_readsPart 0 0 44 [(2, v0), (0, v1), (0, s0), zJ, zJ, zJ, zJ, zJ, zJ, zJ, zJ, zJ, zJ] [(0, 1)] kd m3 (zqV kd q)
        refine EvX.goto (off := 4) (tgt := 48) (by decide +kernel) (by decide) ?_
        exact h
set_option maxRecDepth 20000 in
set_option maxHeartbeats 1000000 in
theorem T_Mo_readsPart_48 {d : Nat} {kd : ZK} {m : ZM} {q : ZM → Prop} {v0 v1 v2 s0 : Int} (h : ((v1 ≠ 0 → (Ev (d + 1) M_Mo_readsPart 0 0 75 [(2, v0), (0, v1), (0, v2), (0, s0), zJ, zJ, zJ, zJ, zJ, zJ, zJ, zJ, zJ] [(0, 0)] kd m (zqV kd q))) ∧ (¬ v1 ≠ 0 → ((v2 ≠ 0 → (Ev (d + 1) M_Mo_readsPart 0 0 75 [(2, v0), (0, v1), (0, v2), (0, s0), zJ, zJ, zJ, zJ, zJ, zJ, zJ, zJ, zJ] [(0, 0)] kd m (zqV kd q))) ∧ (¬ v2 ≠ 0 → ((s0 ≠ 0 → (Ev (d + 1) M_Mo_readsPart 0 0 75 [(2, v0), (0, v1), (0, v2), (0, s0), zJ, zJ, zJ, zJ, zJ, zJ, zJ, zJ, zJ] [(0, 0)] kd m (zqV kd q))) ∧ (¬ s0 ≠ 0 → (zobj kd v0 8 ∧ ∃ q1, CtI d M_Mo_takes [(2, v0), (3, 4)] kd m q1 ∧ ∀ x2 m3, q1 x2 m3 → ((x2 = 0 → (Ev (d + 1) M_Mo_readsPart 0 0 75 [(2, v0), (0, v1), (0, v2), (0, s0), zJ, zJ, zJ, zJ, zJ, zJ, zJ, zJ, zJ] [(0, 0)] kd m3 (zqV kd q))) ∧ (¬ x2 = 0 → (Ev (d + 1) M_Mo_readsPart 0 0 75 [(2, v0), (0, v1), (0, v2), (0, s0), zJ, zJ, zJ, zJ, zJ, zJ, zJ, zJ, zJ] [(0, 1)] kd m3 (zqV kd q)))))))))))) : Ev (d + 1) M_Mo_readsPart 0 0 48 [(2, v0), (0, v1), (0, v2), zJ, zJ, zJ, zJ, zJ, zJ, zJ, zJ, zJ, zJ] [(0, s0)] kd m (zqV kd q) := by
  refine EvX.blk (pc' := 50) [(.istore_n 3, 0, 0), (.iload_n 1, 0, 0)] (by decide +kernel) trivial ?_
  show Ev (d + 1) M_Mo_readsPart 0 0 50 [(2, v0), (0, v1), (0, v2), (0, s0), zJ, zJ, zJ, zJ, zJ, zJ, zJ, zJ, zJ] [(0, v1)] kd m (zqV kd q)
  refine EvX.if_ne (off := 24) (tgt := 74) (by decide +kernel) (by decide) (fun hc => ?_) (fun hc => ?_)
  · have h := h.1 hc
    refine EvX.blk (pc' := 75) [(.iconst 0, 0, 0)] (by decide +kernel) trivial ?_
    show Ev (d + 1) M_Mo_readsPart 0 0 75 [(2, v0), (0, v1), (0, v2), (0, s0), zJ, zJ, zJ, zJ, zJ, zJ, zJ, zJ, zJ] [(0, 0)] kd m (zqV kd q)
    exact h
  · have h := h.2 hc
    refine EvX.blk (pc' := 54) [(.iload_n 2, 0, 0)] (by decide +kernel) trivial ?_
    show Ev (d + 1) M_Mo_readsPart 0 0 54 [(2, v0), (0, v1), (0, v2), (0, s0), zJ, zJ, zJ, zJ, zJ, zJ, zJ, zJ, zJ] [(0, v2)] kd m (zqV kd q)
    refine EvX.if_ne (off := 20) (tgt := 74) (by decide +kernel) (by decide) (fun hc => ?_) (fun hc => ?_)
    · have h := h.1 hc
      refine EvX.blk (pc' := 75) [(.iconst 0, 0, 0)] (by decide +kernel) trivial ?_
      show Ev (d + 1) M_Mo_readsPart 0 0 75 [(2, v0), (0, v1), (0, v2), (0, s0), zJ, zJ, zJ, zJ, zJ, zJ, zJ, zJ, zJ] [(0, 0)] kd m (zqV kd q)
      exact h
    · have h := h.2 hc
      refine EvX.blk (pc' := 58) [(.iload_n 3, 0, 0)] (by decide +kernel) trivial ?_
      show Ev (d + 1) M_Mo_readsPart 0 0 58 [(2, v0), (0, v1), (0, v2), (0, s0), zJ, zJ, zJ, zJ, zJ, zJ, zJ, zJ, zJ] [(0, s0)] kd m (zqV kd q)
      refine EvX.if_ne (off := 16) (tgt := 74) (by decide +kernel) (by decide) (fun hc => ?_) (fun hc => ?_)
      · have h := h.1 hc
        refine EvX.blk (pc' := 75) [(.iconst 0, 0, 0)] (by decide +kernel) trivial ?_
        show Ev (d + 1) M_Mo_readsPart 0 0 75 [(2, v0), (0, v1), (0, v2), (0, s0), zJ, zJ, zJ, zJ, zJ, zJ, zJ, zJ, zJ] [(0, 0)] kd m (zqV kd q)
        exact h
      · have h := h.2 hc
        refine EvX.blk (pc' := 64) [(.aload_n 0, 0, 0), (.ldc 136, 1, 4)] (by decide +kernel) ⟨z_Mo_136, trivial⟩ ?_
        show Ev (d + 1) M_Mo_readsPart 0 0 64 [(2, v0), (0, v1), (0, v2), (0, s0), zJ, zJ, zJ, zJ, zJ, zJ, zJ, zJ, zJ] [(3, 4), (2, v0)] kd m (zqV kd q)
        obtain ⟨ov, h⟩ := h
        obtain ⟨q1, hq, h⟩ := h
        refine EvX.callV (c := 8) (mc := 0) (ms := 0) (as := [(3, 4)]) (st := []) (by decide +kernel) l_Mo_128 k_Mo_takes v_Mo_takes a_Mo_takes (by decide) (Nat.le_of_ble_eq_true rfl) rfl ov hq (fun r kd1 m3 hr => ?_)
        obtain ⟨x2, rfl, hk, hr⟩ := hr
        subst kd1
        have h := h x2 m3 hr
        show Ev (d + 1) M_Mo_readsPart 0 0 67 [(2, v0), (0, v1), (0, v2), (0, s0), zJ, zJ, zJ, zJ, zJ, zJ, zJ, zJ, zJ] [(0, x2)] kd m3 (zqV kd q)
        refine EvX.if_eq (off := 7) (tgt := 74) (by decide +kernel) (by decide) (fun hc => ?_) (fun hc => ?_)
        · have h := h.1 hc
          refine EvX.blk (pc' := 75) [(.iconst 0, 0, 0)] (by decide +kernel) trivial ?_
          show Ev (d + 1) M_Mo_readsPart 0 0 75 [(2, v0), (0, v1), (0, v2), (0, s0), zJ, zJ, zJ, zJ, zJ, zJ, zJ, zJ, zJ] [(0, 0)] kd m3 (zqV kd q)
          exact h
        · have h := h.2 hc
          refine EvX.blk (pc' := 71) [(.iconst 1, 0, 0)] (by decide +kernel) trivial ?_
          show Ev (d + 1) M_Mo_readsPart 0 0 71 [(2, v0), (0, v1), (0, v2), (0, s0), zJ, zJ, zJ, zJ, zJ, zJ, zJ, zJ, zJ] [(0, 1)] kd m3 (zqV kd q)
          refine EvX.goto (off := 4) (tgt := 75) (by decide +kernel) (by decide) ?_
          exact h
set_option maxRecDepth 20000 in
set_option maxHeartbeats 1000000 in
theorem T_Mo_readsPart_75 {d : Nat} {kd : ZK} {m : ZM} {q : ZM → Prop} {v0 v1 v2 v3 s0 : Int} (h : ((v1 ≠ 0 → (Ev (d + 1) M_Mo_readsPart 0 0 108 [(2, v0), (0, v1), (0, v2), (0, v3), (0, s0), zJ, zJ, zJ, zJ, zJ, zJ, zJ, zJ] [(0, 0)] kd m (zqV kd q))) ∧ (¬ v1 ≠ 0 → ((v2 ≠ 0 → (Ev (d + 1) M_Mo_readsPart 0 0 108 [(2, v0), (0, v1), (0, v2), (0, v3), (0, s0), zJ, zJ, zJ, zJ, zJ, zJ, zJ, zJ] [(0, 0)] kd m (zqV kd q))) ∧ (¬ v2 ≠ 0 → ((v3 ≠ 0 → (Ev (d + 1) M_Mo_readsPart 0 0 108 [(2, v0), (0, v1), (0, v2), (0, v3), (0, s0), zJ, zJ, zJ, zJ, zJ, zJ, zJ, zJ] [(0, 0)] kd m (zqV kd q))) ∧ (¬ v3 ≠ 0 → ((s0 ≠ 0 → (Ev (d + 1) M_Mo_readsPart 0 0 108 [(2, v0), (0, v1), (0, v2), (0, v3), (0, s0), zJ, zJ, zJ, zJ, zJ, zJ, zJ, zJ] [(0, 0)] kd m (zqV kd q))) ∧ (¬ s0 ≠ 0 → (zobj kd v0 8 ∧ ∃ q1, CtI d M_Mo_takes [(2, v0), (3, 5)] kd m q1 ∧ ∀ x2 m3, q1 x2 m3 → ((x2 = 0 → (Ev (d + 1) M_Mo_readsPart 0 0 108 [(2, v0), (0, v1), (0, v2), (0, v3), (0, s0), zJ, zJ, zJ, zJ, zJ, zJ, zJ, zJ] [(0, 0)] kd m3 (zqV kd q))) ∧ (¬ x2 = 0 → (Ev (d + 1) M_Mo_readsPart 0 0 108 [(2, v0), (0, v1), (0, v2), (0, v3), (0, s0), zJ, zJ, zJ, zJ, zJ, zJ, zJ, zJ] [(0, 1)] kd m3 (zqV kd q)))))))))))))) : Ev (d + 1) M_Mo_readsPart 0 0 75 [(2, v0), (0, v1), (0, v2), (0, v3), zJ, zJ, zJ, zJ, zJ, zJ, zJ, zJ, zJ] [(0, s0)] kd m (zqV kd q) := by
  refine EvX.blk (pc' := 78) [(.istore 4, 0, 0), (.iload_n 1, 0, 0)] (by decide +kernel) trivial ?_
  show Ev (d + 1) M_Mo_readsPart 0 0 78 [(2, v0), (0, v1), (0, v2), (0, v3), (0, s0), zJ, zJ, zJ, zJ, zJ, zJ, zJ, zJ] [(0, v1)] kd m (zqV kd q)
  refine EvX.if_ne (off := 29) (tgt := 107) (by decide +kernel) (by decide) (fun hc => ?_) (fun hc => ?_)
  · have h := h.1 hc
    refine EvX.blk (pc' := 108) [(.iconst 0, 0, 0)] (by decide +kernel) trivial ?_
    show Ev (d + 1) M_Mo_readsPart 0 0 108 [(2, v0), (0, v1), (0, v2), (0, v3), (0, s0), zJ, zJ, zJ, zJ, zJ, zJ, zJ, zJ] [(0, 0)] kd m (zqV kd q)
    exact h
  · have h := h.2 hc
    refine EvX.blk (pc' := 82) [(.iload_n 2, 0, 0)] (by decide +kernel) trivial ?_
    show Ev (d + 1) M_Mo_readsPart 0 0 82 [(2, v0), (0, v1), (0, v2), (0, v3), (0, s0), zJ, zJ, zJ, zJ, zJ, zJ, zJ, zJ] [(0, v2)] kd m (zqV kd q)
    refine EvX.if_ne (off := 25) (tgt := 107) (by decide +kernel) (by decide) (fun hc => ?_) (fun hc => ?_)
    · have h := h.1 hc
      refine EvX.blk (pc' := 108) [(.iconst 0, 0, 0)] (by decide +kernel) trivial ?_
      show Ev (d + 1) M_Mo_readsPart 0 0 108 [(2, v0), (0, v1), (0, v2), (0, v3), (0, s0), zJ, zJ, zJ, zJ, zJ, zJ, zJ, zJ] [(0, 0)] kd m (zqV kd q)
      exact h
    · have h := h.2 hc
      refine EvX.blk (pc' := 86) [(.iload_n 3, 0, 0)] (by decide +kernel) trivial ?_
      show Ev (d + 1) M_Mo_readsPart 0 0 86 [(2, v0), (0, v1), (0, v2), (0, v3), (0, s0), zJ, zJ, zJ, zJ, zJ, zJ, zJ, zJ] [(0, v3)] kd m (zqV kd q)
      refine EvX.if_ne (off := 21) (tgt := 107) (by decide +kernel) (by decide) (fun hc => ?_) (fun hc => ?_)
      · have h := h.1 hc
        refine EvX.blk (pc' := 108) [(.iconst 0, 0, 0)] (by decide +kernel) trivial ?_
        show Ev (d + 1) M_Mo_readsPart 0 0 108 [(2, v0), (0, v1), (0, v2), (0, v3), (0, s0), zJ, zJ, zJ, zJ, zJ, zJ, zJ, zJ] [(0, 0)] kd m (zqV kd q)
        exact h
      · have h := h.2 hc
        refine EvX.blk (pc' := 91) [(.iload 4, 0, 0)] (by decide +kernel) trivial ?_
        show Ev (d + 1) M_Mo_readsPart 0 0 91 [(2, v0), (0, v1), (0, v2), (0, v3), (0, s0), zJ, zJ, zJ, zJ, zJ, zJ, zJ, zJ] [(0, s0)] kd m (zqV kd q)
        refine EvX.if_ne (off := 16) (tgt := 107) (by decide +kernel) (by decide) (fun hc => ?_) (fun hc => ?_)
        · have h := h.1 hc
          refine EvX.blk (pc' := 108) [(.iconst 0, 0, 0)] (by decide +kernel) trivial ?_
          show Ev (d + 1) M_Mo_readsPart 0 0 108 [(2, v0), (0, v1), (0, v2), (0, v3), (0, s0), zJ, zJ, zJ, zJ, zJ, zJ, zJ, zJ] [(0, 0)] kd m (zqV kd q)
          exact h
        · have h := h.2 hc
          refine EvX.blk (pc' := 97) [(.aload_n 0, 0, 0), (.ldc 138, 1, 5)] (by decide +kernel) ⟨z_Mo_138, trivial⟩ ?_
          show Ev (d + 1) M_Mo_readsPart 0 0 97 [(2, v0), (0, v1), (0, v2), (0, v3), (0, s0), zJ, zJ, zJ, zJ, zJ, zJ, zJ, zJ] [(3, 5), (2, v0)] kd m (zqV kd q)
          obtain ⟨ov, h⟩ := h
          obtain ⟨q1, hq, h⟩ := h
          refine EvX.callV (c := 8) (mc := 0) (ms := 0) (as := [(3, 5)]) (st := []) (by decide +kernel) l_Mo_128 k_Mo_takes v_Mo_takes a_Mo_takes (by decide) (Nat.le_of_ble_eq_true rfl) rfl ov hq (fun r kd1 m3 hr => ?_)
          obtain ⟨x2, rfl, hk, hr⟩ := hr
          subst kd1
          have h := h x2 m3 hr
          show Ev (d + 1) M_Mo_readsPart 0 0 100 [(2, v0), (0, v1), (0, v2), (0, v3), (0, s0), zJ, zJ, zJ, zJ, zJ, zJ, zJ, zJ] [(0, x2)] kd m3 (zqV kd q)
          refine EvX.if_eq (off := 7) (tgt := 107) (by decide +kernel) (by decide) (fun hc => ?_) (fun hc => ?_)
          · have h := h.1 hc
            refine EvX.blk (pc' := 108) [(.iconst 0, 0, 0)] (by decide +kernel) trivial ?_
            show Ev (d + 1) M_Mo_readsPart 0 0 108 [(2, v0), (0, v1), (0, v2), (0, v3), (0, s0), zJ, zJ, zJ, zJ, zJ, zJ, zJ, zJ] [(0, 0)] kd m3 (zqV kd q)
            exact h
          · have h := h.2 hc
            refine EvX.blk (pc' := 104) [(.iconst 1, 0, 0)] (by decide +kernel) trivial ?_
            show Ev (d + 1) M_Mo_readsPart 0 0 104 [(2, v0), (0, v1), (0, v2), (0, v3), (0, s0), zJ, zJ, zJ, zJ, zJ, zJ, zJ, zJ] [(0, 1)] kd m3 (zqV kd q)
            refine EvX.goto (off := 4) (tgt := 108) (by decide +kernel) (by decide) ?_
            exact h
set_option maxRecDepth 20000 in
set_option maxHeartbeats 1000000 in
theorem T_Mo_readsPart_108 {d : Nat} {kd : ZK} {m : ZM} {q : ZM → Prop} {v0 v1 v2 v3 v4 s0 : Int} (h : ((v1 ≠ 0 → (Ev (d + 1) M_Mo_readsPart 0 0 146 [(2, v0), (0, v1), (0, v2), (0, v3), (0, v4), (0, s0), zJ, zJ, zJ, zJ, zJ, zJ, zJ] [(0, 0)] kd m (zqV kd q))) ∧ (¬ v1 ≠ 0 → ((v2 ≠ 0 → (Ev (d + 1) M_Mo_readsPart 0 0 146 [(2, v0), (0, v1), (0, v2), (0, v3), (0, v4), (0, s0), zJ, zJ, zJ, zJ, zJ, zJ, zJ] [(0, 0)] kd m (zqV kd q))) ∧ (¬ v2 ≠ 0 → ((v3 ≠ 0 → (Ev (d + 1) M_Mo_readsPart 0 0 146 [(2, v0), (0, v1), (0, v2), (0, v3), (0, v4), (0, s0), zJ, zJ, zJ, zJ, zJ, zJ, zJ] [(0, 0)] kd m (zqV kd q))) ∧ (¬ v3 ≠ 0 → ((v4 ≠ 0 → (Ev (d + 1) M_Mo_readsPart 0 0 146 [(2, v0), (0, v1), (0, v2), (0, v3), (0, v4), (0, s0), zJ, zJ, zJ, zJ, zJ, zJ, zJ] [(0, 0)] kd m (zqV kd q))) ∧ (¬ v4 ≠ 0 → ((s0 ≠ 0 → (Ev (d + 1) M_Mo_readsPart 0 0 146 [(2, v0), (0, v1), (0, v2), (0, v3), (0, v4), (0, s0), zJ, zJ, zJ, zJ, zJ, zJ, zJ] [(0, 0)] kd m (zqV kd q))) ∧ (¬ s0 ≠ 0 → (zobj kd v0 8 ∧ ∃ q1, CtI d M_Mo_takes [(2, v0), (3, 6)] kd m q1 ∧ ∀ x2 m3, q1 x2 m3 → ((x2 = 0 → (Ev (d + 1) M_Mo_readsPart 0 0 146 [(2, v0), (0, v1), (0, v2), (0, v3), (0, v4), (0, s0), zJ, zJ, zJ, zJ, zJ, zJ, zJ] [(0, 0)] kd m3 (zqV kd q))) ∧ (¬ x2 = 0 → (Ev (d + 1) M_Mo_readsPart 0 0 146 [(2, v0), (0, v1), (0, v2), (0, v3), (0, v4), (0, s0), zJ, zJ, zJ, zJ, zJ, zJ, zJ] [(0, 1)] kd m3 (zqV kd q)))))))))))))))) : Ev (d + 1) M_Mo_readsPart 0 0 108 [(2, v0), (0, v1), (0, v2), (0, v3), (0, v4), zJ, zJ, zJ, zJ, zJ, zJ, zJ, zJ] [(0, s0)] kd m (zqV kd q) := by
  refine EvX.blk (pc' := 111) [(.istore 5, 0, 0), (.iload_n 1, 0, 0)] (by decide +kernel) trivial ?_
  show Ev (d + 1) M_Mo_readsPart 0 0 111 [(2, v0), (0, v1), (0, v2), (0, v3), (0, v4), (0, s0), zJ, zJ, zJ, zJ, zJ, zJ, zJ] [(0, v1)] kd m (zqV kd q)
  refine EvX.if_ne (off := 34) (tgt := 145) (by decide +kernel) (by decide) (fun hc => ?_) (fun hc => ?_)
  · have h := h.1 hc
    refine EvX.blk (pc' := 146) [(.iconst 0, 0, 0)] (by decide +kernel) trivial ?_
    show Ev (d + 1) M_Mo_readsPart 0 0 146 [(2, v0), (0, v1), (0, v2), (0, v3), (0, v4), (0, s0), zJ, zJ, zJ, zJ, zJ, zJ, zJ] [(0, 0)] kd m (zqV kd q)
    exact h
  · have h := h.2 hc
    refine EvX.blk (pc' := 115) [(.iload_n 2, 0, 0)] (by decide +kernel) trivial ?_
    show Ev (d + 1) M_Mo_readsPart 0 0 115 [(2, v0), (0, v1), (0, v2), (0, v3), (0, v4), (0, s0), zJ, zJ, zJ, zJ, zJ, zJ, zJ] [(0, v2)] kd m (zqV kd q)
    refine EvX.if_ne (off := 30) (tgt := 145) (by decide +kernel) (by decide) (fun hc => ?_) (fun hc => ?_)
    · have h := h.1 hc
      refine EvX.blk (pc' := 146) [(.iconst 0, 0, 0)] (by decide +kernel) trivial ?_
      show Ev (d + 1) M_Mo_readsPart 0 0 146 [(2, v0), (0, v1), (0, v2), (0, v3), (0, v4), (0, s0), zJ, zJ, zJ, zJ, zJ, zJ, zJ] [(0, 0)] kd m (zqV kd q)
      exact h
    · have h := h.2 hc
      refine EvX.blk (pc' := 119) [(.iload_n 3, 0, 0)] (by decide +kernel) trivial ?_
      show Ev (d + 1) M_Mo_readsPart 0 0 119 [(2, v0), (0, v1), (0, v2), (0, v3), (0, v4), (0, s0), zJ, zJ, zJ, zJ, zJ, zJ, zJ] [(0, v3)] kd m (zqV kd q)
      refine EvX.if_ne (off := 26) (tgt := 145) (by decide +kernel) (by decide) (fun hc => ?_) (fun hc => ?_)
      · have h := h.1 hc
        refine EvX.blk (pc' := 146) [(.iconst 0, 0, 0)] (by decide +kernel) trivial ?_
        show Ev (d + 1) M_Mo_readsPart 0 0 146 [(2, v0), (0, v1), (0, v2), (0, v3), (0, v4), (0, s0), zJ, zJ, zJ, zJ, zJ, zJ, zJ] [(0, 0)] kd m (zqV kd q)
        exact h
      · have h := h.2 hc
        refine EvX.blk (pc' := 124) [(.iload 4, 0, 0)] (by decide +kernel) trivial ?_
        show Ev (d + 1) M_Mo_readsPart 0 0 124 [(2, v0), (0, v1), (0, v2), (0, v3), (0, v4), (0, s0), zJ, zJ, zJ, zJ, zJ, zJ, zJ] [(0, v4)] kd m (zqV kd q)
        refine EvX.if_ne (off := 21) (tgt := 145) (by decide +kernel) (by decide) (fun hc => ?_) (fun hc => ?_)
        · have h := h.1 hc
          refine EvX.blk (pc' := 146) [(.iconst 0, 0, 0)] (by decide +kernel) trivial ?_
          show Ev (d + 1) M_Mo_readsPart 0 0 146 [(2, v0), (0, v1), (0, v2), (0, v3), (0, v4), (0, s0), zJ, zJ, zJ, zJ, zJ, zJ, zJ] [(0, 0)] kd m (zqV kd q)
          exact h
        · have h := h.2 hc
          refine EvX.blk (pc' := 129) [(.iload 5, 0, 0)] (by decide +kernel) trivial ?_
          show Ev (d + 1) M_Mo_readsPart 0 0 129 [(2, v0), (0, v1), (0, v2), (0, v3), (0, v4), (0, s0), zJ, zJ, zJ, zJ, zJ, zJ, zJ] [(0, s0)] kd m (zqV kd q)
          refine EvX.if_ne (off := 16) (tgt := 145) (by decide +kernel) (by decide) (fun hc => ?_) (fun hc => ?_)
          · have h := h.1 hc
            refine EvX.blk (pc' := 146) [(.iconst 0, 0, 0)] (by decide +kernel) trivial ?_
            show Ev (d + 1) M_Mo_readsPart 0 0 146 [(2, v0), (0, v1), (0, v2), (0, v3), (0, v4), (0, s0), zJ, zJ, zJ, zJ, zJ, zJ, zJ] [(0, 0)] kd m (zqV kd q)
            exact h
          · have h := h.2 hc
            refine EvX.blk (pc' := 135) [(.aload_n 0, 0, 0), (.ldc 140, 1, 6)] (by decide +kernel) ⟨z_Mo_140, trivial⟩ ?_
            show Ev (d + 1) M_Mo_readsPart 0 0 135 [(2, v0), (0, v1), (0, v2), (0, v3), (0, v4), (0, s0), zJ, zJ, zJ, zJ, zJ, zJ, zJ] [(3, 6), (2, v0)] kd m (zqV kd q)
            obtain ⟨ov, h⟩ := h
            obtain ⟨q1, hq, h⟩ := h
            refine EvX.callV (c := 8) (mc := 0) (ms := 0) (as := [(3, 6)]) (st := []) (by decide +kernel) l_Mo_128 k_Mo_takes v_Mo_takes a_Mo_takes (by decide) (Nat.le_of_ble_eq_true rfl) rfl ov hq (fun r kd1 m3 hr => ?_)
            obtain ⟨x2, rfl, hk, hr⟩ := hr
            subst kd1
            have h := h x2 m3 hr
            show Ev (d + 1) M_Mo_readsPart 0 0 138 [(2, v0), (0, v1), (0, v2), (0, v3), (0, v4), (0, s0), zJ, zJ, zJ, zJ, zJ, zJ, zJ] [(0, x2)] kd m3 (zqV kd q)
            refine EvX.if_eq (off := 7) (tgt := 145) (by decide +kernel) (by decide) (fun hc => ?_) (fun hc => ?_)
            · have h := h.1 hc
              refine EvX.blk (pc' := 146) [(.iconst 0, 0, 0)] (by decide +kernel) trivial ?_
              show Ev (d + 1) M_Mo_readsPart 0 0 146 [(2, v0), (0, v1), (0, v2), (0, v3), (0, v4), (0, s0), zJ, zJ, zJ, zJ, zJ, zJ, zJ] [(0, 0)] kd m3 (zqV kd q)
              exact h
            · have h := h.2 hc
              refine EvX.blk (pc' := 142) [(.iconst 1, 0, 0)] (by decide +kernel) trivial ?_
              show Ev (d + 1) M_Mo_readsPart 0 0 142 [(2, v0), (0, v1), (0, v2), (0, v3), (0, v4), (0, s0), zJ, zJ, zJ, zJ, zJ, zJ, zJ] [(0, 1)] kd m3 (zqV kd q)
              refine EvX.goto (off := 4) (tgt := 146) (by decide +kernel) (by decide) ?_
              exact h
set_option maxRecDepth 20000 in
set_option maxHeartbeats 1000000 in
theorem T_Mo_readsPart_146 {d : Nat} {kd : ZK} {m : ZM} {q : ZM → Prop} {v0 v1 v2 v3 v4 v5 s0 : Int} (h : ((v1 ≠ 0 → (Ev (d + 1) M_Mo_readsPart 0 0 189 [(2, v0), (0, v1), (0, v2), (0, v3), (0, v4), (0, v5), (0, s0), zJ, zJ, zJ, zJ, zJ, zJ] [(0, 0)] kd m (zqV kd q))) ∧ (¬ v1 ≠ 0 → ((v2 ≠ 0 → (Ev (d + 1) M_Mo_readsPart 0 0 189 [(2, v0), (0, v1), (0, v2), (0, v3), (0, v4), (0, v5), (0, s0), zJ, zJ, zJ, zJ, zJ, zJ] [(0, 0)] kd m (zqV kd q))) ∧ (¬ v2 ≠ 0 → ((v3 ≠ 0 → (Ev (d + 1) M_Mo_readsPart 0 0 189 [(2, v0), (0, v1), (0, v2), (0, v3), (0, v4), (0, v5), (0, s0), zJ, zJ, zJ, zJ, zJ, zJ] [(0, 0)] kd m (zqV kd q))) ∧ (¬ v3 ≠ 0 → ((v4 ≠ 0 → (Ev (d + 1) M_Mo_readsPart 0 0 189 [(2, v0), (0, v1), (0, v2), (0, v3), (0, v4), (0, v5), (0, s0), zJ, zJ, zJ, zJ, zJ, zJ] [(0, 0)] kd m (zqV kd q))) ∧ (¬ v4 ≠ 0 → ((v5 ≠ 0 → (Ev (d + 1) M_Mo_readsPart 0 0 189 [(2, v0), (0, v1), (0, v2), (0, v3), (0, v4), (0, v5), (0, s0), zJ, zJ, zJ, zJ, zJ, zJ] [(0, 0)] kd m (zqV kd q))) ∧ (¬ v5 ≠ 0 → ((s0 ≠ 0 → (Ev (d + 1) M_Mo_readsPart 0 0 189 [(2, v0), (0, v1), (0, v2), (0, v3), (0, v4), (0, v5), (0, s0), zJ, zJ, zJ, zJ, zJ, zJ] [(0, 0)] kd m (zqV kd q))) ∧ (¬ s0 ≠ 0 → (zobj kd v0 8 ∧ ∃ q1, CtI d M_Mo_takes [(2, v0), (3, 7)] kd m q1 ∧ ∀ x2 m3, q1 x2 m3 → ((x2 = 0 → (Ev (d + 1) M_Mo_readsPart 0 0 189 [(2, v0), (0, v1), (0, v2), (0, v3), (0, v4), (0, v5), (0, s0), zJ, zJ, zJ, zJ, zJ, zJ] [(0, 0)] kd m3 (zqV kd q))) ∧ (¬ x2 = 0 → (Ev (d + 1) M_Mo_readsPart 0 0 189 [(2, v0), (0, v1), (0, v2), (0, v3), (0, v4), (0, v5), (0, s0), zJ, zJ, zJ, zJ, zJ, zJ] [(0, 1)] kd m3 (zqV kd q)))))))))))))))))) : Ev (d + 1) M_Mo_readsPart 0 0 146 [(2, v0), (0, v1), (0, v2), (0, v3), (0, v4), (0, v5), zJ, zJ, zJ, zJ, zJ, zJ, zJ] [(0, s0)] kd m (zqV kd q) := by
  refine EvX.blk (pc' := 149) [(.istore 6, 0, 0), (.iload_n 1, 0, 0)] (by decide +kernel) trivial ?_
  show Ev (d + 1) M_Mo_readsPart 0 0 149 [(2, v0), (0, v1), (0, v2), (0, v3), (0, v4), (0, v5), (0, s0), zJ, zJ, zJ, zJ, zJ, zJ] [(0, v1)] kd m (zqV kd q)
  refine EvX.if_ne (off := 39) (tgt := 188) (by decide +kernel) (by decide) (fun hc => ?_) (fun hc => ?_)
  · have h := h.1 hc
    refine EvX.blk (pc' := 189) [(.iconst 0, 0, 0)] (by decide +kernel) trivial ?_
    show Ev (d + 1) M_Mo_readsPart 0 0 189 [(2, v0), (0, v1), (0, v2), (0, v3), (0, v4), (0, v5), (0, s0), zJ, zJ, zJ, zJ, zJ, zJ] [(0, 0)] kd m (zqV kd q)
    exact h
  · have h := h.2 hc
    refine EvX.blk (pc' := 153) [(.iload_n 2, 0, 0)] (by decide +kernel) trivial ?_
    show Ev (d + 1) M_Mo_readsPart 0 0 153 [(2, v0), (0, v1), (0, v2), (0, v3), (0, v4), (0, v5), (0, s0), zJ, zJ, zJ, zJ, zJ, zJ] [(0, v2)] kd m (zqV kd q)
    refine EvX.if_ne (off := 35) (tgt := 188) (by decide +kernel) (by decide) (fun hc => ?_) (fun hc => ?_)
    · have h := h.1 hc
      refine EvX.blk (pc' := 189) [(.iconst 0, 0, 0)] (by decide +kernel) trivial ?_
      show Ev (d + 1) M_Mo_readsPart 0 0 189 [(2, v0), (0, v1), (0, v2), (0, v3), (0, v4), (0, v5), (0, s0), zJ, zJ, zJ, zJ, zJ, zJ] [(0, 0)] kd m (zqV kd q)
      exact h
    · have h := h.2 hc
      refine EvX.blk (pc' := 157) [(.iload_n 3, 0, 0)] (by decide +kernel) trivial ?_
      show Ev (d + 1) M_Mo_readsPart 0 0 157 [(2, v0), (0, v1), (0, v2), (0, v3), (0, v4), (0, v5), (0, s0), zJ, zJ, zJ, zJ, zJ, zJ] [(0, v3)] kd m (zqV kd q)
      refine EvX.if_ne (off := 31) (tgt := 188) (by decide +kernel) (by decide) (fun hc => ?_) (fun hc => ?_)
      · have h := h.1 hc
        refine EvX.blk (pc' := 189) [(.iconst 0, 0, 0)] (by decide +kernel) trivial ?_
        show Ev (d + 1) M_Mo_readsPart 0 0 189 [(2, v0), (0, v1), (0, v2), (0, v3), (0, v4), (0, v5), (0, s0), zJ, zJ, zJ, zJ, zJ, zJ] [(0, 0)] kd m (zqV kd q)
        exact h
      · have h := h.2 hc
        refine EvX.blk (pc' := 162) [(.iload 4, 0, 0)] (by decide +kernel) trivial ?_
        show Ev (d + 1) M_Mo_readsPart 0 0 162 [(2, v0), (0, v1), (0, v2), (0, v3), (0, v4), (0, v5), (0, s0), zJ, zJ, zJ, zJ, zJ, zJ] [(0, v4)] kd m (zqV kd q)
        refine EvX.if_ne (off := 26) (tgt := 188) (by decide +kernel) (by decide) (fun hc => ?_) (fun hc => ?_)
        · have h := h.1 hc
          refine EvX.blk (pc' := 189) [(.iconst 0, 0, 0)] (by decide +kernel) trivial ?_
          show Ev (d + 1) M_Mo_readsPart 0 0 189 [(2, v0), (0, v1), (0, v2), (0, v3), (0, v4), (0, v5), (0, s0), zJ, zJ, zJ, zJ, zJ, zJ] [(0, 0)] kd m (zqV kd q)
          exact h
        · have h := h.2 hc
          refine EvX.blk (pc' := 167) [(.iload 5, 0, 0)] (by decide +kernel) trivial ?_
          show Ev (d + 1) M_Mo_readsPart 0 0 167 [(2, v0), (0, v1), (0, v2), (0, v3), (0, v4), (0, v5), (0, s0), zJ, zJ, zJ, zJ, zJ, zJ] [(0, v5)] kd m (zqV kd q)
          refine EvX.if_ne (off := 21) (tgt := 188) (by decide +kernel) (by decide) (fun hc => ?_) (fun hc => ?_)
          · have h := h.1 hc
            refine EvX.blk (pc' := 189) [(.iconst 0, 0, 0)] (by decide +kernel) trivial ?_
            show Ev (d + 1) M_Mo_readsPart 0 0 189 [(2, v0), (0, v1), (0, v2), (0, v3), (0, v4), (0, v5), (0, s0), zJ, zJ, zJ, zJ, zJ, zJ] [(0, 0)] kd m (zqV kd q)
            exact h
          · have h := h.2 hc
            refine EvX.blk (pc' := 172) [(.iload 6, 0, 0)] (by decide +kernel) trivial ?_
            show Ev (d + 1) M_Mo_readsPart 0 0 172 [(2, v0), (0, v1), (0, v2), (0, v3), (0, v4), (0, v5), (0, s0), zJ, zJ, zJ, zJ, zJ, zJ] [(0, s0)] kd m (zqV kd q)
            refine EvX.if_ne (off := 16) (tgt := 188) (by decide +kernel) (by decide) (fun hc => ?_) (fun hc => ?_)
            · have h := h.1 hc
              refine EvX.blk (pc' := 189) [(.iconst 0, 0, 0)] (by decide +kernel) trivial ?_
              show Ev (d + 1) M_Mo_readsPart 0 0 189 [(2, v0), (0, v1), (0, v2), (0, v3), (0, v4), (0, v5), (0, s0), zJ, zJ, zJ, zJ, zJ, zJ] [(0, 0)] kd m (zqV kd q)
              exact h
            · have h := h.2 hc
              refine EvX.blk (pc' := 178) [(.aload_n 0, 0, 0), (.ldc 142, 1, 7)] (by decide +kernel) ⟨z_Mo_142, trivial⟩ ?_
              show Ev (d + 1) M_Mo_readsPart 0 0 178 [(2, v0), (0, v1), (0, v2), (0, v3), (0, v4), (0, v5), (0, s0), zJ, zJ, zJ, zJ, zJ, zJ] [(3, 7), (2, v0)] kd m (zqV kd q)
              obtain ⟨ov, h⟩ := h
              obtain ⟨q1, hq, h⟩ := h
              refine EvX.callV (c := 8) (mc := 0) (ms := 0) (as := [(3, 7)]) (st := []) (by decide +kernel) l_Mo_128 k_Mo_takes v_Mo_takes a_Mo_takes (by decide) (Nat.le_of_ble_eq_true rfl) rfl ov hq (fun r kd1 m3 hr => ?_)
              obtain ⟨x2, rfl, hk, hr⟩ := hr
              subst kd1
              have h := h x2 m3 hr
              show Ev (d + 1) M_Mo_readsPart 0 0 181 [(2, v0), (0, v1), (0, v2), (0, v3), (0, v4), (0, v5), (0, s0), zJ, zJ, zJ, zJ, zJ, zJ] [(0, x2)] kd m3 (zqV kd q)
              refine EvX.if_eq (off := 7) (tgt := 188) (by decide +kernel) (by decide) (fun hc => ?_) (fun hc => ?_)
              · have h := h.1 hc
                refine EvX.blk (pc' := 189) [(.iconst 0, 0, 0)] (by decide +kernel) trivial ?_
                show Ev (d + 1) M_Mo_readsPart 0 0 189 [(2, v0), (0, v1), (0, v2), (0, v3), (0, v4), (0, v5), (0, s0), zJ, zJ, zJ, zJ, zJ, zJ] [(0, 0)] kd m3 (zqV kd q)
                exact h
              · have h := h.2 hc
                refine EvX.blk (pc' := 185) [(.iconst 1, 0, 0)] (by decide +kernel) trivial ?_
                show Ev (d + 1) M_Mo_readsPart 0 0 185 [(2, v0), (0, v1), (0, v2), (0, v3), (0, v4), (0, v5), (0, s0), zJ, zJ, zJ, zJ, zJ, zJ] [(0, 1)] kd m3 (zqV kd q)
                refine EvX.goto (off := 4) (tgt := 189) (by decide +kernel) (by decide) ?_
                exact h
set_option maxRecDepth 20000 in
set_option maxHeartbeats 1000000 in
theorem T_Mo_readsPart_189 {d : Nat} {kd : ZK} {m : ZM} {q : ZM → Prop} {v0 v1 v2 v3 v4 v5 v6 s0 : Int} (h : ((v1 ≠ 0 → (Ev (d + 1) M_Mo_readsPart 0 0 233 [(2, v0), (0, v1), (0, v2), (0, v3), (0, v4), (0, v5), (0, v6), (0, s0), zJ, zJ, zJ, zJ, zJ] [] kd m (zqV kd q))) ∧ (¬ v1 ≠ 0 → ((v2 ≠ 0 → (Ev (d + 1) M_Mo_readsPart 0 0 233 [(2, v0), (0, v1), (0, v2), (0, v3), (0, v4), (0, v5), (0, v6), (0, s0), zJ, zJ, zJ, zJ, zJ] [] kd m (zqV kd q))) ∧ (¬ v2 ≠ 0 → ((v3 ≠ 0 → (Ev (d + 1) M_Mo_readsPart 0 0 233 [(2, v0), (0, v1), (0, v2), (0, v3), (0, v4), (0, v5), (0, v6), (0, s0), zJ, zJ, zJ, zJ, zJ] [] kd m (zqV kd q))) ∧ (¬ v3 ≠ 0 → ((v4 ≠ 0 → (Ev (d + 1) M_Mo_readsPart 0 0 233 [(2, v0), (0, v1), (0, v2), (0, v3), (0, v4), (0, v5), (0, v6), (0, s0), zJ, zJ, zJ, zJ, zJ] [] kd m (zqV kd q))) ∧ (¬ v4 ≠ 0 → ((v5 ≠ 0 → (Ev (d + 1) M_Mo_readsPart 0 0 233 [(2, v0), (0, v1), (0, v2), (0, v3), (0, v4), (0, v5), (0, v6), (0, s0), zJ, zJ, zJ, zJ, zJ] [] kd m (zqV kd q))) ∧ (¬ v5 ≠ 0 → ((v6 ≠ 0 → (Ev (d + 1) M_Mo_readsPart 0 0 233 [(2, v0), (0, v1), (0, v2), (0, v3), (0, v4), (0, v5), (0, v6), (0, s0), zJ, zJ, zJ, zJ, zJ] [] kd m (zqV kd q))) ∧ (¬ v6 ≠ 0 → ((s0 ≠ 0 → (Ev (d + 1) M_Mo_readsPart 0 0 233 [(2, v0), (0, v1), (0, v2), (0, v3), (0, v4), (0, v5), (0, v6), (0, s0), zJ, zJ, zJ, zJ, zJ] [] kd m (zqV kd q))) ∧ (¬ s0 ≠ 0 → (zobj kd v0 8 ∧ (zobj kd v0 8 ∧ ∃ q1, CtV d M_Mo_fails [(2, v0), (0, 1), (0, m v0 9)] kd m q1 ∧ ∀ m3, q1 m3 → q m3))))))))))))))))) : Ev (d + 1) M_Mo_readsPart 0 0 189 [(2, v0), (0, v1), (0, v2), (0, v3), (0, v4), (0, v5), (0, v6), zJ, zJ, zJ, zJ, zJ, zJ] [(0, s0)] kd m (zqV kd q) := by
  refine EvX.blk (pc' := 192) [(.istore 7, 0, 0), (.iload_n 1, 0, 0)] (by decide +kernel) trivial ?_
  show Ev (d + 1) M_Mo_readsPart 0 0 192 [(2, v0), (0, v1), (0, v2), (0, v3), (0, v4), (0, v5), (0, v6), (0, s0), zJ, zJ, zJ, zJ, zJ] [(0, v1)] kd m (zqV kd q)
  refine EvX.if_ne (off := 41) (tgt := 233) (by decide +kernel) (by decide) (fun hc => ?_) (fun hc => ?_)
  · have h := h.1 hc
    exact h
  · have h := h.2 hc
    refine EvX.blk (pc' := 196) [(.iload_n 2, 0, 0)] (by decide +kernel) trivial ?_
    show Ev (d + 1) M_Mo_readsPart 0 0 196 [(2, v0), (0, v1), (0, v2), (0, v3), (0, v4), (0, v5), (0, v6), (0, s0), zJ, zJ, zJ, zJ, zJ] [(0, v2)] kd m (zqV kd q)
    refine EvX.if_ne (off := 37) (tgt := 233) (by decide +kernel) (by decide) (fun hc => ?_) (fun hc => ?_)
    · have h := h.1 hc
      exact h
    · have h := h.2 hc
      refine EvX.blk (pc' := 200) [(.iload_n 3, 0, 0)] (by decide +kernel) trivial ?_
      show Ev (d + 1) M_Mo_readsPart 0 0 200 [(2, v0), (0, v1), (0, v2), (0, v3), (0, v4), (0, v5), (0, v6), (0, s0), zJ, zJ, zJ, zJ, zJ] [(0, v3)] kd m (zqV kd q)
      refine EvX.if_ne (off := 33) (tgt := 233) (by decide +kernel) (by decide) (fun hc => ?_) (fun hc => ?_)
      · have h := h.1 hc
        exact h
      · have h := h.2 hc
        refine EvX.blk (pc' := 205) [(.iload 4, 0, 0)] (by decide +kernel) trivial ?_
        show Ev (d + 1) M_Mo_readsPart 0 0 205 [(2, v0), (0, v1), (0, v2), (0, v3), (0, v4), (0, v5), (0, v6), (0, s0), zJ, zJ, zJ, zJ, zJ] [(0, v4)] kd m (zqV kd q)
        refine EvX.if_ne (off := 28) (tgt := 233) (by decide +kernel) (by decide) (fun hc => ?_) (fun hc => ?_)
        · have h := h.1 hc
          exact h
        · have h := h.2 hc
          refine EvX.blk (pc' := 210) [(.iload 5, 0, 0)] (by decide +kernel) trivial ?_
          show Ev (d + 1) M_Mo_readsPart 0 0 210 [(2, v0), (0, v1), (0, v2), (0, v3), (0, v4), (0, v5), (0, v6), (0, s0), zJ, zJ, zJ, zJ, zJ] [(0, v5)] kd m (zqV kd q)
          refine EvX.if_ne (off := 23) (tgt := 233) (by decide +kernel) (by decide) (fun hc => ?_) (fun hc => ?_)
          · have h := h.1 hc
            exact h
          · have h := h.2 hc
            refine EvX.blk (pc' := 215) [(.iload 6, 0, 0)] (by decide +kernel) trivial ?_
            show Ev (d + 1) M_Mo_readsPart 0 0 215 [(2, v0), (0, v1), (0, v2), (0, v3), (0, v4), (0, v5), (0, v6), (0, s0), zJ, zJ, zJ, zJ, zJ] [(0, v6)] kd m (zqV kd q)
            refine EvX.if_ne (off := 18) (tgt := 233) (by decide +kernel) (by decide) (fun hc => ?_) (fun hc => ?_)
            · have h := h.1 hc
              exact h
            · have h := h.2 hc
              refine EvX.blk (pc' := 220) [(.iload 7, 0, 0)] (by decide +kernel) trivial ?_
              show Ev (d + 1) M_Mo_readsPart 0 0 220 [(2, v0), (0, v1), (0, v2), (0, v3), (0, v4), (0, v5), (0, v6), (0, s0), zJ, zJ, zJ, zJ, zJ] [(0, s0)] kd m (zqV kd q)
              refine EvX.if_ne (off := 13) (tgt := 233) (by decide +kernel) (by decide) (fun hc => ?_) (fun hc => ?_)
              · have h := h.1 hc
                exact h
              · have h := h.2 hc
                obtain ⟨o1, h⟩ := h
                refine EvX.blk (pc' := 229) [(.aload_n 0, 0, 0), (.iconst 1, 0, 0), (.aload_n 0, 0, 0), (.getfield 72, 8, 9)] (by decide +kernel) ⟨g_Mo_72, trivial⟩ ⟨o1, ?_⟩
                show Ev (d + 1) M_Mo_readsPart 0 0 229 [(2, v0), (0, v1), (0, v2), (0, v3), (0, v4), (0, v5), (0, v6), (0, s0), zJ, zJ, zJ, zJ, zJ] [(0, m v0 9), (0, 1), (2, v0)] kd m (zqV kd q)
                obtain ⟨ov, h⟩ := h
                obtain ⟨q1, hq, h⟩ := h
                refine EvX.callV (c := 8) (mc := 0) (ms := 0) (as := [(0, 1), (0, m v0 9)]) (st := []) (by decide +kernel) l_Mo_110 k_Mo_fails v_Mo_fails a_Mo_fails (by decide) (Nat.le_of_ble_eq_true rfl) rfl ov hq (fun r kd1 m3 hr => ?_)
                obtain ⟨rfl, hk, hr⟩ := hr
                subst kd1
                have h := h m3 hr
                show Ev (d + 1) M_Mo_readsPart 0 0 232 [(2, v0), (0, v1), (0, v2), (0, v3), (0, v4), (0, v5), (0, v6), (0, s0), zJ, zJ, zJ, zJ, zJ] [] kd m3 (zqV kd q)
                exact EvX.ret (r := zJ) (by decide +kernel) rfl ⟨rfl, rfl, h⟩
set_option maxRecDepth 20000 in
set_option maxHeartbeats 1000000 in
theorem T_Mo_readsPart_233 {d : Nat} {kd : ZK} {m : ZM} {q : ZM → Prop} {v0 v1 v2 v3 v4 v5 v6 v7 : Int} (h : (zobj kd v0 8 ∧ zIn kd (m v0 1) 0 0 ∧ (zobj kd v0 8 ∧ ∃ q1, CtI d M_Mo_number [(2, v0), (0, 0), (0, iw ((m (m v0 1) 0) - 1))] kd m q1 ∧ ∀ x2 m3, q1 x2 m3 → (zobj kd v0 8 ∧ zIn kd (m3 v0 1) 0 1 ∧ (zobj kd v0 8 ∧ ∃ q4, CtI d M_Mo_number [(2, v0), (0, 0), (0, iw ((m3 (m3 v0 1) 1) - 1))] kd m3 q4 ∧ ∀ x5 m6, q4 x5 m6 → ((v1 = 0 → (zobj kd v0 8 ∧ ∃ q7, CtV d M_Mo_readsWins [(2, v0), (0, v3), (0, v4), (0, v5), (0, v6), (0, x2), (0, x5)] kd m6 q7 ∧ ∀ m9, q7 m9 → ((v2 ≠ 0 → (Ev (d + 1) M_Mo_readsPart 0 0 325 [(2, v0), zJ, zJ, zJ, zJ, zJ, zJ, (0, v7), (0, x2), (0, x5), zJ, zJ, zJ] [] kd m9 (zqV kd q))) ∧ (¬ v2 ≠ 0 → ((v7 ≠ 0 → (Ev (d + 1) M_Mo_readsPart 0 0 325 [(2, v0), zJ, zJ, zJ, zJ, zJ, zJ, (0, v7), (0, x2), (0, x5), zJ, zJ, zJ] [] kd m9 (zqV kd q))) ∧ (¬ v7 ≠ 0 → q m9)))))) ∧ (¬ v1 = 0 → (zobj kd v0 8 ∧ ∃ q10, CtI d M_Mo_number [(2, v0), (0, 0), (0, 9)] kd m6 q10 ∧ ∀ x11 m12, q10 x11 m12 → (zobj kd v0 8 ∧ ∃ q13, CtI d M_Mo_isRight [(2, v0)] kd m12 q13 ∧ ∀ x14 m15, q13 x14 m15 → ((x14 = 0 → q m15) ∧ (¬ x14 = 0 → (zobj kd v0 8 ∧ (∃ q16, CtI d M_Mo_twoOf [(0, x2), (0, x5)] kd m15 q16 ∧ ∀ x17 m18, q16 x17 m18 → (zIn kd (m15 v0 1) 0 (iw (4 + x17)) ∧ q (zup m18 (m15 v0 1) (iw (4 + x17)) x11))))))))))))))) : Ev (d + 1) M_Mo_readsPart 0 0 233 [(2, v0), (0, v1), (0, v2), (0, v3), (0, v4), (0, v5), (0, v6), (0, v7), zJ, zJ, zJ, zJ, zJ] [] kd m (zqV kd q) := by
  obtain ⟨o1, o2, h⟩ := h
  refine EvX.blk (pc' := 243) [(.aload_n 0, 0, 0), (.iconst 0, 0, 0), (.aload_n 0, 0, 0), (.getfield 13, 8, 1), (.iconst 0, 0, 0), (.iaload, 0, 0), (.iconst 1, 0, 0), (.isub, 0, 0)] (by decide +kernel) ⟨g_Mo_13, trivial⟩ ⟨o1, o2, ?_⟩
  show Ev (d + 1) M_Mo_readsPart 0 0 243 [(2, v0), (0, v1), (0, v2), (0, v3), (0, v4), (0, v5), (0, v6), (0, v7), zJ, zJ, zJ, zJ, zJ] [(0, iw ((m (m v0 1) 0) - 1)), (0, 0), (2, v0)] kd m (zqV kd q)
  obtain ⟨ov, h⟩ := h
  obtain ⟨q1, hq, h⟩ := h
  refine EvX.callV (c := 8) (mc := 0) (ms := 0) (as := [(0, 0), (0, iw ((m (m v0 1) 0) - 1))]) (st := []) (by decide +kernel) l_Mo_144 k_Mo_number v_Mo_number a_Mo_number (by decide) (Nat.le_of_ble_eq_true rfl) rfl ov hq (fun r kd1 m3 hr => ?_)
  obtain ⟨x2, rfl, hk, hr⟩ := hr
  subst kd1
  have h := h x2 m3 hr
  show Ev (d + 1) M_Mo_readsPart 0 0 246 [(2, v0), (0, v1), (0, v2), (0, v3), (0, v4), (0, v5), (0, v6), (0, v7), zJ, zJ, zJ, zJ, zJ] [(0, x2)] kd m3 (zqV kd q)
  obtain ⟨o1, o2, h⟩ := h
  refine EvX.blk (pc' := 258) [(.istore 8, 0, 0), (.aload_n 0, 0, 0), (.iconst 0, 0, 0), (.aload_n 0, 0, 0), (.getfield 13, 8, 1), (.iconst 1, 0, 0), (.iaload, 0, 0), (.iconst 1, 0, 0), (.isub, 0, 0)] (by decide +kernel) ⟨g_Mo_13, trivial⟩ ⟨o1, o2, ?_⟩
  show Ev (d + 1) M_Mo_readsPart 0 0 258 [(2, v0), (0, v1), (0, v2), (0, v3), (0, v4), (0, v5), (0, v6), (0, v7), (0, x2), zJ, zJ, zJ, zJ] [(0, iw ((m3 (m3 v0 1) 1) - 1)), (0, 0), (2, v0)] kd m3 (zqV kd q)
  obtain ⟨ov, h⟩ := h
  obtain ⟨q4, hq, h⟩ := h
  refine EvX.callV (c := 8) (mc := 0) (ms := 0) (as := [(0, 0), (0, iw ((m3 (m3 v0 1) 1) - 1))]) (st := []) (by decide +kernel) l_Mo_144 k_Mo_number v_Mo_number a_Mo_number (by decide) (Nat.le_of_ble_eq_true rfl) rfl ov hq (fun r kd1 m6 hr => ?_)
  obtain ⟨x5, rfl, hk, hr⟩ := hr
  subst kd1
  have h := h x5 m6 hr
  show Ev (d + 1) M_Mo_readsPart 0 0 261 [(2, v0), (0, v1), (0, v2), (0, v3), (0, v4), (0, v5), (0, v6), (0, v7), (0, x2), zJ, zJ, zJ, zJ] [(0, x5)] kd m6 (zqV kd q)
  refine EvX.blk (pc' := 264) [(.istore 9, 0, 0), (.iload_n 1, 0, 0)] (by decide +kernel) trivial ?_
  show Ev (d + 1) M_Mo_readsPart 0 0 264 [(2, v0), (0, v1), (0, v2), (0, v3), (0, v4), (0, v5), (0, v6), (0, v7), (0, x2), (0, x5), zJ, zJ, zJ] [(0, v1)] kd m6 (zqV kd q)
  refine EvX.if_eq (off := 36) (tgt := 300) (by decide +kernel) (by decide) (fun hc => ?_) (fun hc => ?_)
  · have h := h.1 hc
    refine EvX.blk (pc' := 312) [(.aload_n 0, 0, 0), (.iload_n 3, 0, 0), (.iload 4, 0, 0), (.iload 5, 0, 0), (.iload 6, 0, 0), (.iload 8, 0, 0), (.iload 9, 0, 0)] (by decide +kernel) trivial ?_
    show Ev (d + 1) M_Mo_readsPart 0 0 312 [(2, v0), (0, v1), (0, v2), (0, v3), (0, v4), (0, v5), (0, v6), (0, v7), (0, x2), (0, x5), zJ, zJ, zJ] [(0, x5), (0, x2), (0, v6), (0, v5), (0, v4), (0, v3), (2, v0)] kd m6 (zqV kd q)
    obtain ⟨ov, h⟩ := h
    obtain ⟨q7, hq, h⟩ := h
    refine EvX.callV (c := 8) (mc := 0) (ms := 0) (as := [(0, v3), (0, v4), (0, v5), (0, v6), (0, x2), (0, x5)]) (st := []) (by decide +kernel) l_Mo_147 k_Mo_readsWins v_Mo_readsWins a_Mo_readsWins (by decide) (Nat.le_of_ble_eq_true rfl) rfl ov hq (fun r kd1 m9 hr => ?_)
    obtain ⟨rfl, hk, hr⟩ := hr
    subst kd1
    have h := h m9 hr
    show Ev (d + 1) M_Mo_readsPart 0 0 315 [(2, v0), (0, v1), (0, v2), (0, v3), (0, v4), (0, v5), (0, v6), (0, v7), (0, x2), (0, x5), zJ, zJ, zJ] [] kd m9 (zqV kd q)
    refine EvX.blk (pc' := 316) [(.iload_n 2, 0, 0)] (by decide +kernel) trivial ?_
    show Ev (d + 1) M_Mo_readsPart 0 0 316 [(2, v0), (0, v1), (0, v2), (0, v3), (0, v4), (0, v5), (0, v6), (0, v7), (0, x2), (0, x5), zJ, zJ, zJ] [(0, v2)] kd m9 (zqV kd q)
    refine EvX.if_ne (off := 9) (tgt := 325) (by decide +kernel) (by decide) (fun hc => ?_) (fun hc => ?_)
    · have h := h.1 hc
      exact EvX.weak (ls2 := [(2, v0), zJ, zJ, zJ, zJ, zJ, zJ, (0, v7), (0, x2), (0, x5), zJ, zJ, zJ]) (zwk_of ⟨Or.inr rfl, Or.inl rfl, Or.inl rfl, Or.inl rfl, Or.inl rfl, Or.inl rfl, Or.inl rfl, Or.inr rfl, Or.inr rfl, Or.inr rfl, Or.inl rfl, Or.inl rfl, Or.inl rfl, trivial⟩) h
    · have h := h.2 hc
      refine EvX.blk (pc' := 321) [(.iload 7, 0, 0)] (by decide +kernel) trivial ?_
      show Ev (d + 1) M_Mo_readsPart 0 0 321 [(2, v0), (0, v1), (0, v2), (0, v3), (0, v4), (0, v5), (0, v6), (0, v7), (0, x2), (0, x5), zJ, zJ, zJ] [(0, v7)] kd m9 (zqV kd q)
      refine EvX.if_ne (off := 4) (tgt := 325) (by decide +kernel) (by decide) (fun hc => ?_) (fun hc => ?_)
      · have h := h.1 hc
        exact EvX.weak (ls2 := [(2, v0), zJ, zJ, zJ, zJ, zJ, zJ, (0, v7), (0, x2), (0, x5), zJ, zJ, zJ]) (zwk_of ⟨Or.inr rfl, Or.inl rfl, Or.inl rfl, Or.inl rfl, Or.inl rfl, Or.inl rfl, Or.inl rfl, Or.inr rfl, Or.inr rfl, Or.inr rfl, Or.inl rfl, Or.inl rfl, Or.inl rfl, trivial⟩) h
      · have h := h.2 hc
        exact EvX.ret (r := zJ) (by decide +kernel) rfl ⟨rfl, rfl, h⟩
  · have h := h.2 hc
    refine EvX.blk (pc' := 271) [(.aload_n 0, 0, 0), (.iconst 0, 0, 0), (.bipush 9, 0, 0)] (by decide +kernel) trivial ?_
    show Ev (d + 1) M_Mo_readsPart 0 0 271 [(2, v0), (0, v1), (0, v2), (0, v3), (0, v4), (0, v5), (0, v6), (0, v7), (0, x2), (0, x5), zJ, zJ, zJ] [(0, 9), (0, 0), (2, v0)] kd m6 (zqV kd q)
    obtain ⟨ov, h⟩ := h
    obtain ⟨q10, hq, h⟩ := h
    refine EvX.callV (c := 8) (mc := 0) (ms := 0) (as := [(0, 0), (0, 9)]) (st := []) (by decide +kernel) l_Mo_144 k_Mo_number v_Mo_number a_Mo_number (by decide) (Nat.le_of_ble_eq_true rfl) rfl ov hq (fun r kd1 m12 hr => ?_)
    obtain ⟨x11, rfl, hk, hr⟩ := hr
    subst kd1
    have h := h x11 m12 hr
    show Ev (d + 1) M_Mo_readsPart 0 0 274 [(2, v0), (0, v1), (0, v2), (0, v3), (0, v4), (0, v5), (0, v6), (0, v7), (0, x2), (0, x5), zJ, zJ, zJ] [(0, x11)] kd m12 (zqV kd q)
    refine EvX.blk (pc' := 277) [(.istore 10, 0, 0), (.aload_n 0, 0, 0)] (by decide +kernel) trivial ?_
    show Ev (d + 1) M_Mo_readsPart 0 0 277 [(2, v0), (0, v1), (0, v2), (0, v3), (0, v4), (0, v5), (0, v6), (0, v7), (0, x2), (0, x5), (0, x11), zJ, zJ] [(2, v0)] kd m12 (zqV kd q)
    obtain ⟨ov, h⟩ := h
    obtain ⟨q13, hq, h⟩ := h
    refine EvX.callV (c := 8) (mc := 0) (ms := 0) (as := []) (st := []) (by decide +kernel) l_Mo_82 k_Mo_isRight v_Mo_isRight a_Mo_isRight (by decide) (Nat.le_of_ble_eq_true rfl) rfl ov hq (fun r kd1 m15 hr => ?_)
    obtain ⟨x14, rfl, hk, hr⟩ := hr
    subst kd1
    have h := h x14 m15 hr
    show Ev (d + 1) M_Mo_readsPart 0 0 280 [(2, v0), (0, v1), (0, v2), (0, v3), (0, v4), (0, v5), (0, v6), (0, v7), (0, x2), (0, x5), (0, x11), zJ, zJ] [(0, x14)] kd m15 (zqV kd q)
    refine EvX.if_eq (off := 19) (tgt := 299) (by decide +kernel) (by decide) (fun hc => ?_) (fun hc => ?_)
    · have h := h.1 hc
      exact EvX.ret (r := zJ) (by decide +kernel) rfl ⟨rfl, rfl, h⟩
    · have h := h.2 hc
      obtain ⟨o1, h⟩ := h
      refine EvX.blk (pc' := 292) [(.aload_n 0, 0, 0), (.getfield 13, 8, 1), (.iconst 4, 0, 0), (.iload 8, 0, 0), (.iload 9, 0, 0)] (by decide +kernel) ⟨g_Mo_13, trivial⟩ ⟨o1, ?_⟩
      show Ev (d + 1) M_Mo_readsPart 0 0 292 [(2, v0), (0, v1), (0, v2), (0, v3), (0, v4), (0, v5), (0, v6), (0, v7), (0, x2), (0, x5), (0, x11), zJ, zJ] [(0, x5), (0, x2), (0, 4), (2, m15 v0 1)] kd m15 (zqV kd q)
      obtain ⟨q16, hq, h⟩ := h
      refine EvX.callS (mc := 0) (ms := 0) (as := [(0, x2), (0, x5)]) (st := [(0, 4), (2, m15 v0 1)]) (by decide +kernel) l_Mo_60 k_Mo_twoOf s_Mo_twoOf a_Mo_twoOf (by decide) (Nat.le_of_ble_eq_true rfl) hq (fun r kd1 m18 hr => ?_)
      obtain ⟨x17, rfl, hk, hr⟩ := hr
      subst kd1
      have h := h x17 m18 hr
      show Ev (d + 1) M_Mo_readsPart 0 0 295 [(2, v0), (0, v1), (0, v2), (0, v3), (0, v4), (0, v5), (0, v6), (0, v7), (0, x2), (0, x5), (0, x11), zJ, zJ] [(0, x17), (0, 4), (2, m15 v0 1)] kd m18 (zqV kd q)
      obtain ⟨o1, h⟩ := h
      refine EvX.blk (pc' := 299) [(.iadd, 0, 0), (.iload 10, 0, 0), (.iastore, 0, 0)] (by decide +kernel) trivial ⟨o1, ?_⟩
      show Ev (d + 1) M_Mo_readsPart 0 0 299 [(2, v0), (0, v1), (0, v2), (0, v3), (0, v4), (0, v5), (0, v6), (0, v7), (0, x2), (0, x5), (0, x11), zJ, zJ] [] kd (zup m18 (m15 v0 1) (iw (4 + x17)) x11) (zqV kd q)
      exact EvX.ret (r := zJ) (by decide +kernel) rfl ⟨rfl, rfl, h⟩
set_option maxRecDepth 20000 in
set_option maxHeartbeats 1000000 in
theorem T_Mo_readsPart_325 {d : Nat} {kd : ZK} {m : ZM} {q : ZM → Prop} {v0 v7 v8 v9 : Int} (h : (zobj kd v0 8 ∧ zIn kd (m v0 1) 0 2 ∧ (zobj kd v0 8 ∧ ∃ q1, CtI d M_Mo_number [(2, v0), (0, 0), (0, iw ((m (m v0 1) 2) - 1))] kd m q1 ∧ ∀ x2 m3, q1 x2 m3 → (zobj kd v0 8 ∧ zIn kd (m3 v0 1) 0 3 ∧ (zobj kd v0 8 ∧ ∃ q4, CtI d M_Mo_number [(2, v0), (0, 0), (0, iw ((m3 (m3 v0 1) 3) - 1))] kd m3 q4 ∧ ∀ x5 m6, q4 x5 m6 → ((v7 = 0 → (Ev (d + 1) M_Mo_readsPart 0 0 371 [(2, v0), zJ, zJ, zJ, zJ, zJ, zJ, (0, v7), (0, v8), (0, v9), (0, x2), (0, x5), zJ] [(0, 1)] kd m6 (zqV kd q))) ∧ (¬ v7 = 0 → (zobj kd v0 8 ∧ ∃ q7, CtI d M_Mo_number [(2, v0), (0, 0), (0, 12)] kd m6 q7 ∧ ∀ x8 m9, q7 x8 m9 → (Ev (d + 1) M_Mo_readsPart 0 0 371 [(2, v0), zJ, zJ, zJ, zJ, zJ, zJ, (0, v7), (0, v8), (0, v9), (0, x2), (0, x5), zJ] [(0, x8)] kd m9 (zqV kd q)))))))))) : Ev (d + 1) M_Mo_readsPart 0 0 325 [(2, v0), zJ, zJ, zJ, zJ, zJ, zJ, (0, v7), (0, v8), (0, v9), zJ, zJ, zJ] [] kd m (zqV kd q) := by
  obtain ⟨o1, o2, h⟩ := h
  refine EvX.blk (pc' := 335) [(.aload_n 0, 0, 0), (.iconst 0, 0, 0), (.aload_n 0, 0, 0), (.getfield 13, 8, 1), (.iconst 2, 0, 0), (.iaload, 0, 0), (.iconst 1, 0, 0), (.isub, 0, 0)] (by decide +kernel) ⟨g_Mo_13, trivial⟩ ⟨o1, o2, ?_⟩
  show Ev (d + 1) M_Mo_readsPart 0 0 335 [(2, v0), zJ, zJ, zJ, zJ, zJ, zJ, (0, v7), (0, v8), (0, v9), zJ, zJ, zJ] [(0, iw ((m (m v0 1) 2) - 1)), (0, 0), (2, v0)] kd m (zqV kd q)
  obtain ⟨ov, h⟩ := h
  obtain ⟨q1, hq, h⟩ := h
  refine EvX.callV (c := 8) (mc := 0) (ms := 0) (as := [(0, 0), (0, iw ((m (m v0 1) 2) - 1))]) (st := []) (by decide +kernel) l_Mo_144 k_Mo_number v_Mo_number a_Mo_number (by decide) (Nat.le_of_ble_eq_true rfl) rfl ov hq (fun r kd1 m3 hr => ?_)
  obtain ⟨x2, rfl, hk, hr⟩ := hr
  subst kd1
  have h := h x2 m3 hr
  show Ev (d + 1) M_Mo_readsPart 0 0 338 [(2, v0), zJ, zJ, zJ, zJ, zJ, zJ, (0, v7), (0, v8), (0, v9), zJ, zJ, zJ] [(0, x2)] kd m3 (zqV kd q)
  obtain ⟨o1, o2, h⟩ := h
  refine EvX.blk (pc' := 350) [(.istore 10, 0, 0), (.aload_n 0, 0, 0), (.iconst 0, 0, 0), (.aload_n 0, 0, 0), (.getfield 13, 8, 1), (.iconst 3, 0, 0), (.iaload, 0, 0), (.iconst 1, 0, 0), (.isub, 0, 0)] (by decide +kernel) ⟨g_Mo_13, trivial⟩ ⟨o1, o2, ?_⟩
  show Ev (d + 1) M_Mo_readsPart 0 0 350 [(2, v0), zJ, zJ, zJ, zJ, zJ, zJ, (0, v7), (0, v8), (0, v9), (0, x2), zJ, zJ] [(0, iw ((m3 (m3 v0 1) 3) - 1)), (0, 0), (2, v0)] kd m3 (zqV kd q)
  obtain ⟨ov, h⟩ := h
  obtain ⟨q4, hq, h⟩ := h
  refine EvX.callV (c := 8) (mc := 0) (ms := 0) (as := [(0, 0), (0, iw ((m3 (m3 v0 1) 3) - 1))]) (st := []) (by decide +kernel) l_Mo_144 k_Mo_number v_Mo_number a_Mo_number (by decide) (Nat.le_of_ble_eq_true rfl) rfl ov hq (fun r kd1 m6 hr => ?_)
  obtain ⟨x5, rfl, hk, hr⟩ := hr
  subst kd1
  have h := h x5 m6 hr
  show Ev (d + 1) M_Mo_readsPart 0 0 353 [(2, v0), zJ, zJ, zJ, zJ, zJ, zJ, (0, v7), (0, v8), (0, v9), (0, x2), zJ, zJ] [(0, x5)] kd m6 (zqV kd q)
  refine EvX.blk (pc' := 357) [(.istore 11, 0, 0), (.iload 7, 0, 0)] (by decide +kernel) trivial ?_
  show Ev (d + 1) M_Mo_readsPart 0 0 357 [(2, v0), zJ, zJ, zJ, zJ, zJ, zJ, (0, v7), (0, v8), (0, v9), (0, x2), (0, x5), zJ] [(0, v7)] kd m6 (zqV kd q)
  refine EvX.if_eq (off := 13) (tgt := 370) (by decide +kernel) (by decide) (fun hc => ?_) (fun hc => ?_)
  · have h := h.1 hc
    refine EvX.blk (pc' := 371) [(.iconst 1, 0, 0)] (by decide +kernel) trivial ?_
    show Ev (d + 1) M_Mo_readsPart 0 0 371 [(2, v0), zJ, zJ, zJ, zJ, zJ, zJ, (0, v7), (0, v8), (0, v9), (0, x2), (0, x5), zJ] [(0, 1)] kd m6 (zqV kd q)
    exact h
  · have h := h.2 hc
    refine EvX.blk (pc' := 364) [(.aload_n 0, 0, 0), (.iconst 0, 0, 0), (.bipush 12, 0, 0)] (by decide +kernel) trivial ?_
    show Ev (d + 1) M_Mo_readsPart 0 0 364 [(2, v0), zJ, zJ, zJ, zJ, zJ, zJ, (0, v7), (0, v8), (0, v9), (0, x2), (0, x5), zJ] [(0, 12), (0, 0), (2, v0)] kd m6 (zqV kd q)
    obtain ⟨ov, h⟩ := h
    obtain ⟨q7, hq, h⟩ := h
    refine EvX.callV (c := 8) (mc := 0) (ms := 0) (as := [(0, 0), (0, 12)]) (st := []) (by decide +kernel) l_Mo_144 k_Mo_number v_Mo_number a_Mo_number (by decide) (Nat.le_of_ble_eq_true rfl) rfl ov hq (fun r kd1 m9 hr => ?_)
    obtain ⟨x8, rfl, hk, hr⟩ := hr
    subst kd1
    have h := h x8 m9 hr
    show Ev (d + 1) M_Mo_readsPart 0 0 367 [(2, v0), zJ, zJ, zJ, zJ, zJ, zJ, (0, v7), (0, v8), (0, v9), (0, x2), (0, x5), zJ] [(0, x8)] kd m9 (zqV kd q)
    refine EvX.goto (off := 4) (tgt := 371) (by decide +kernel) (by decide) ?_
    exact h
set_option maxRecDepth 20000 in
set_option maxHeartbeats 1000000 in
theorem T_Mo_readsPart_371 {d : Nat} {kd : ZK} {m : ZM} {q : ZM → Prop} {v0 v7 v8 v9 v10 v11 s0 : Int} (h : (zobj kd v0 8 ∧ ∃ q1, CtI d M_Mo_isRight [(2, v0)] kd m q1 ∧ ∀ x2 m3, q1 x2 m3 → ((x2 = 0 → q m3) ∧ (¬ x2 = 0 → (zobj kd v0 8 ∧ ((v7 = 0 → (Ev (d + 1) M_Mo_readsPart 0 0 397 [zJ, zJ, zJ, zJ, zJ, zJ, zJ, zJ, (0, v8), (0, v9), (0, v10), (0, v11), (0, s0)] [(0, 29), (2, m3 v0 1)] kd m3 (zqV kd q))) ∧ (¬ v7 = 0 → (Ev (d + 1) M_Mo_readsPart 0 0 397 [zJ, zJ, zJ, zJ, zJ, zJ, zJ, zJ, (0, v8), (0, v9), (0, v10), (0, v11), (0, s0)] [(0, 429), (2, m3 v0 1)] kd m3 (zqV kd q))))))))) : Ev (d + 1) M_Mo_readsPart 0 0 371 [(2, v0), zJ, zJ, zJ, zJ, zJ, zJ, (0, v7), (0, v8), (0, v9), (0, v10), (0, v11), zJ] [(0, s0)] kd m (zqV kd q) := by
  refine EvX.blk (pc' := 374) [(.istore 12, 0, 0), (.aload_n 0, 0, 0)] (by decide +kernel) trivial ?_
  show Ev (d + 1) M_Mo_readsPart 0 0 374 [(2, v0), zJ, zJ, zJ, zJ, zJ, zJ, (0, v7), (0, v8), (0, v9), (0, v10), (0, v11), (0, s0)] [(2, v0)] kd m (zqV kd q)
  obtain ⟨ov, h⟩ := h
  obtain ⟨q1, hq, h⟩ := h
  refine EvX.callV (c := 8) (mc := 0) (ms := 0) (as := []) (st := []) (by decide +kernel) l_Mo_82 k_Mo_isRight v_Mo_isRight a_Mo_isRight (by decide) (Nat.le_of_ble_eq_true rfl) rfl ov hq (fun r kd1 m3 hr => ?_)
  obtain ⟨x2, rfl, hk, hr⟩ := hr
  subst kd1
  have h := h x2 m3 hr
  show Ev (d + 1) M_Mo_readsPart 0 0 377 [(2, v0), zJ, zJ, zJ, zJ, zJ, zJ, (0, v7), (0, v8), (0, v9), (0, v10), (0, v11), (0, s0)] [(0, x2)] kd m3 (zqV kd q)
  refine EvX.if_eq (off := 35) (tgt := 412) (by decide +kernel) (by decide) (fun hc => ?_) (fun hc => ?_)
  · have h := h.1 hc
    exact EvX.ret (r := zJ) (by decide +kernel) rfl ⟨rfl, rfl, h⟩
  · have h := h.2 hc
    obtain ⟨o1, h⟩ := h
    refine EvX.blk (pc' := 386) [(.aload_n 0, 0, 0), (.getfield 13, 8, 1), (.iload 7, 0, 0)] (by decide +kernel) ⟨g_Mo_13, trivial⟩ ⟨o1, ?_⟩
    show Ev (d + 1) M_Mo_readsPart 0 0 386 [(2, v0), zJ, zJ, zJ, zJ, zJ, zJ, (0, v7), (0, v8), (0, v9), (0, v10), (0, v11), (0, s0)] [(0, v7), (2, m3 v0 1)] kd m3 (zqV kd q)
    refine EvX.if_eq (off := 9) (tgt := 395) (by decide +kernel) (by decide) (fun hc => ?_) (fun hc => ?_)
    · have h := h.1 hc
      refine EvX.blk (pc' := 397) [(.bipush 29, 0, 0)] (by decide +kernel) trivial ?_
      show Ev (d + 1) M_Mo_readsPart 0 0 397 [(2, v0), zJ, zJ, zJ, zJ, zJ, zJ, (0, v7), (0, v8), (0, v9), (0, v10), (0, v11), (0, s0)] [(0, 29), (2, m3 v0 1)] kd m3 (zqV kd q)
      exact EvX.weak (ls2 := [zJ, zJ, zJ, zJ, zJ, zJ, zJ, zJ, (0, v8), (0, v9), (0, v10), (0, v11), (0, s0)]) (zwk_of ⟨Or.inl rfl, Or.inl rfl, Or.inl rfl, Or.inl rfl, Or.inl rfl, Or.inl rfl, Or.inl rfl, Or.inl rfl, Or.inr rfl, Or.inr rfl, Or.inr rfl, Or.inr rfl, Or.inr rfl, trivial⟩) h
    · have h := h.2 hc
      refine EvX.blk (pc' := 392) [(.sipush 429, 0, 0)] (by decide +kernel) trivial ?_
      show Ev (d + 1) M_Mo_readsPart 0 0 392 [(2, v0), zJ, zJ, zJ, zJ, zJ, zJ, (0, v7), (0, v8), (0, v9), (0, v10), (0, v11), (0, s0)] [(0, 429), (2, m3 v0 1)] kd m3 (zqV kd q)
      refine EvX.goto (off := 5) (tgt := 397) (by decide +kernel) (by decide) ?_
      exact EvX.weak (ls2 := [zJ, zJ, zJ, zJ, zJ, zJ, zJ, zJ, (0, v8), (0, v9), (0, v10), (0, v11), (0, s0)]) (zwk_of ⟨Or.inl rfl, Or.inl rfl, Or.inl rfl, Or.inl rfl, Or.inl rfl, Or.inl rfl, Or.inl rfl, Or.inl rfl, Or.inr rfl, Or.inr rfl, Or.inr rfl, Or.inr rfl, Or.inr rfl, trivial⟩) h
set_option maxRecDepth 20000 in
set_option maxHeartbeats 1000000 in
theorem T_Mo_readsPart_397 {d : Nat} {kd : ZK} {m : ZM} {q : ZM → Prop} {v8 v9 v10 v11 v12 s0 s1 : Int} (h : (∃ q1, CtI d M_Mo_fourOf [(0, v8), (0, v9), (0, v10), (0, v11)] kd m q1 ∧ ∀ x2 m3, q1 x2 m3 → (zIn kd s0 0 (iw (s1 + x2)) ∧ q (zup m3 s0 (iw (s1 + x2)) v12)))) : Ev (d + 1) M_Mo_readsPart 0 0 397 [zJ, zJ, zJ, zJ, zJ, zJ, zJ, zJ, (0, v8), (0, v9), (0, v10), (0, v11), (0, v12)] [(0, s1), (2, s0)] kd m (zqV kd q) := by
  refine EvX.blk (pc' := 405) [(.iload 8, 0, 0), (.iload 9, 0, 0), (.iload 10, 0, 0), (.iload 11, 0, 0)] (by decide +kernel) trivial ?_
  show Ev (d + 1) M_Mo_readsPart 0 0 405 [zJ, zJ, zJ, zJ, zJ, zJ, zJ, zJ, (0, v8), (0, v9), (0, v10), (0, v11), (0, v12)] [(0, v11), (0, v10), (0, v9), (0, v8), (0, s1), (2, s0)] kd m (zqV kd q)
  obtain ⟨q1, hq, h⟩ := h
  refine EvX.callS (mc := 0) (ms := 0) (as := [(0, v8), (0, v9), (0, v10), (0, v11)]) (st := [(0, s1), (2, s0)]) (by decide +kernel) l_Mo_122 k_Mo_fourOf s_Mo_fourOf a_Mo_fourOf (by decide) (Nat.le_of_ble_eq_true rfl) hq (fun r kd1 m3 hr => ?_)
  obtain ⟨x2, rfl, hk, hr⟩ := hr
  subst kd1
  have h := h x2 m3 hr
  show Ev (d + 1) M_Mo_readsPart 0 0 408 [zJ, zJ, zJ, zJ, zJ, zJ, zJ, zJ, (0, v8), (0, v9), (0, v10), (0, v11), (0, v12)] [(0, x2), (0, s1), (2, s0)] kd m3 (zqV kd q)
  obtain ⟨o1, h⟩ := h
  refine EvX.blk (pc' := 412) [(.iadd, 0, 0), (.iload 12, 0, 0), (.iastore, 0, 0)] (by decide +kernel) trivial ⟨o1, ?_⟩
  show Ev (d + 1) M_Mo_readsPart 0 0 412 [zJ, zJ, zJ, zJ, zJ, zJ, zJ, zJ, (0, v8), (0, v9), (0, v10), (0, v11), (0, v12)] [] kd (zup m3 s0 (iw (s1 + x2)) v12) (zqV kd q)
  exact EvX.ret (r := zJ) (by decide +kernel) rfl ⟨rfl, rfl, h⟩
set_option maxRecDepth 20000 in
set_option maxHeartbeats 1000000 in
theorem T_Mo_tell_0 {d : Nat} {kd : ZK} {m : ZM} {q : Int → ZM → Prop} {v0 : Int} (h : (zobj kd v0 8 ∧ zobj kd v0 8 ∧ (Ev (d + 1) M_Mo_tell 0 0 12 [(2, v0), (0, 0), zJ] [] kd (zup (zup m v0 9 0) v0 10 (-1)) (zqI kd q)))) : Ev (d + 1) M_Mo_tell 0 0 0 [(2, v0), zJ, zJ] [] kd m (zqI kd q) := by
  obtain ⟨o1, o2, h⟩ := h
  refine EvX.blk (pc' := 12) [(.aload_n 0, 0, 0), (.iconst 0, 0, 0), (.putfield 72, 8, 9), (.aload_n 0, 0, 0), (.iconst (-1), 0, 0), (.putfield 79, 8, 10), (.iconst 0, 0, 0), (.istore_n 1, 0, 0)] (by decide +kernel) ⟨⟨g_Mo_72, p_Mo_72⟩, ⟨g_Mo_79, p_Mo_79⟩, trivial⟩ ⟨rfl, o1, rfl, o2, ?_⟩
  show Ev (d + 1) M_Mo_tell 0 0 12 [(2, v0), (0, 0), zJ] [] kd (zup (zup m v0 9 0) v0 10 (-1)) (zqI kd q)
  exact h
theorem S_Mo_tell {d : Nat} {kd : ZK} {m : ZM} {q : Int → ZM → Prop} {v0 : Int} (h : (zobj kd v0 8 ∧ zobj kd v0 8 ∧ (Ev (d + 1) M_Mo_tell 0 0 12 [(2, v0), (0, 0), zJ] [] kd (zup (zup m v0 9 0) v0 10 (-1)) (zqI kd q)))) : CtI (d + 1) M_Mo_tell [(2, v0)] kd m q :=
  Ct.start k_Mo_tell (Nat.le_of_ble_eq_true rfl) ⟨1, Or.inr (Or.inl ⟨rfl, rfl⟩)⟩ (T_Mo_tell_0 h)
set_option maxRecDepth 20000 in
set_option maxHeartbeats 1000000 in
theorem T_Mo_tell_12 {d : Nat} {kd : ZK} {m : ZM} {q : Int → ZM → Prop} {v0 v1 : Int} (h : ((829 ≤ v1 → (zobj kd v0 8 ∧ ∃ q1, CtI d M_Mo_takes [(2, v0), (3, 0)] kd m q1 ∧ ∀ x2 m3, q1 x2 m3 → ((x2 ≠ 0 → (Ev (d + 1) M_Mo_tell 0 0 50 [(2, v0), zJ, zJ] [] kd m3 (zqI kd q))) ∧ (¬ x2 ≠ 0 → (zobj kd v0 8 ∧ (zobj kd v0 8 ∧ ∃ q4, CtV d M_Mo_fails [(2, v0), (0, 1), (0, m3 v0 9)] kd m3 q4 ∧ ∀ m6, q4 m6 → (Ev (d + 1) M_Mo_tell 0 0 50 [(2, v0), zJ, zJ] [] kd m6 (zqI kd q)))))))) ∧ (¬ 829 ≤ v1 → (zobj kd v0 8 ∧ zIn kd (m v0 1) 0 v1 ∧ (Ev (d + 1) M_Mo_tell 0 0 12 [(2, v0), (0, iw (v1 + 1)), zJ] [] kd (zup m (m v0 1) v1 0) (zqI kd q)))))) : Ev (d + 1) M_Mo_tell 0 0 12 [(2, v0), (0, v1), zJ] [] kd m (zqI kd q) := by
  refine EvX.blk (pc' := 16) [(.iload_n 1, 0, 0), (.sipush 829, 0, 0)] (by decide +kernel) trivial ?_
  show Ev (d + 1) M_Mo_tell 0 0 16 [(2, v0), (0, v1), zJ] [(0, 829), (0, v1)] kd m (zqI kd q)
  refine EvX.icmp_ge (off := 16) (tgt := 32) (by decide +kernel) (by decide) (fun hc => ?_) (fun hc => ?_)
  · have h := h.1 hc
    refine EvX.blk (pc' := 35) [(.aload_n 0, 0, 0), (.ldc 151, 1, 0)] (by decide +kernel) ⟨z_Mo_151, trivial⟩ ?_
    show Ev (d + 1) M_Mo_tell 0 0 35 [(2, v0), (0, v1), zJ] [(3, 0), (2, v0)] kd m (zqI kd q)
    obtain ⟨ov, h⟩ := h
    obtain ⟨q1, hq, h⟩ := h
    refine EvX.callV (c := 8) (mc := 0) (ms := 0) (as := [(3, 0)]) (st := []) (by decide +kernel) l_Mo_128 k_Mo_takes v_Mo_takes a_Mo_takes (by decide) (Nat.le_of_ble_eq_true rfl) rfl ov hq (fun r kd1 m3 hr => ?_)
    obtain ⟨x2, rfl, hk, hr⟩ := hr
    subst kd1
    have h := h x2 m3 hr
    show Ev (d + 1) M_Mo_tell 0 0 38 [(2, v0), (0, v1), zJ] [(0, x2)] kd m3 (zqI kd q)
    refine EvX.if_ne (off := 12) (tgt := 50) (by decide +kernel) (by decide) (fun hc => ?_) (fun hc => ?_)
    · have h := h.1 hc
      exact EvX.weak (ls2 := [(2, v0), zJ, zJ]) (zwk_of ⟨Or.inr rfl, Or.inl rfl, Or.inl rfl, trivial⟩) h
    · have h := h.2 hc
      obtain ⟨o1, h⟩ := h
      refine EvX.blk (pc' := 47) [(.aload_n 0, 0, 0), (.iconst 1, 0, 0), (.aload_n 0, 0, 0), (.getfield 72, 8, 9)] (by decide +kernel) ⟨g_Mo_72, trivial⟩ ⟨o1, ?_⟩
      show Ev (d + 1) M_Mo_tell 0 0 47 [(2, v0), (0, v1), zJ] [(0, m3 v0 9), (0, 1), (2, v0)] kd m3 (zqI kd q)
      obtain ⟨ov, h⟩ := h
      obtain ⟨q4, hq, h⟩ := h
      refine EvX.callV (c := 8) (mc := 0) (ms := 0) (as := [(0, 1), (0, m3 v0 9)]) (st := []) (by decide +kernel) l_Mo_110 k_Mo_fails v_Mo_fails a_Mo_fails (by decide) (Nat.le_of_ble_eq_true rfl) rfl ov hq (fun r kd1 m6 hr => ?_)
      obtain ⟨rfl, hk, hr⟩ := hr
      subst kd1
      have h := h m6 hr
      show Ev (d + 1) M_Mo_tell 0 0 50 [(2, v0), (0, v1), zJ] [] kd m6 (zqI kd q)
      exact EvX.weak (ls2 := [(2, v0), zJ, zJ]) (zwk_of ⟨Or.inr rfl, Or.inl rfl, Or.inl rfl, trivial⟩) h
  · have h := h.2 hc
    obtain ⟨o1, o2, h⟩ := h
    refine EvX.blk (pc' := 29) [(.aload_n 0, 0, 0), (.getfield 13, 8, 1), (.iload_n 1, 0, 0), (.iconst 0, 0, 0), (.iastore, 0, 0), (.iinc 1 1, 0, 0)] (by decide +kernel) ⟨g_Mo_13, trivial⟩ ⟨o1, o2, ?_⟩
    show Ev (d + 1) M_Mo_tell 0 0 29 [(2, v0), (0, iw (v1 + 1)), zJ] [] kd (zup m (m v0 1) v1 0) (zqI kd q)
    refine EvX.goto (off := (-17)) (tgt := 12) (by decide +kernel) (by decide) ?_
    exact h
set_option maxRecDepth 20000 in
set_option maxHeartbeats 1000000 in
theorem T_Mo_tell_50 {d : Nat} {kd : ZK} {m : ZM} {q : Int → ZM → Prop} {v0 : Int} (h : (zobj kd v0 8 ∧ (zobj kd v0 8 ∧ ∃ q1, CtI d M_Mo_number [(2, v0), (0, 1), (0, 5)] kd m q1 ∧ ∀ x2 m3, q1 x2 m3 → (zIn kd (m v0 1) 0 0 ∧ zobj kd v0 8 ∧ (zobj kd v0 8 ∧ ∃ q4, CtI d M_Mo_number [(2, v0), (0, 1), (0, 5)] kd (zup m3 (m v0 1) 0 x2) q4 ∧ ∀ x5 m6, q4 x5 m6 → (zIn kd ((zup m3 (m v0 1) 0 x2) v0 1) 0 1 ∧ zobj kd v0 8 ∧ (zobj kd v0 8 ∧ ∃ q7, CtI d M_Mo_number [(2, v0), (0, 2), (0, 4)] kd (zup m6 ((zup m3 (m v0 1) 0 x2) v0 1) 1 x5) q7 ∧ ∀ x8 m9, q7 x8 m9 → (zIn kd ((zup m6 ((zup m3 (m v0 1) 0 x2) v0 1) 1 x5) v0 1) 0 2 ∧ zobj kd v0 8 ∧ (zobj kd v0 8 ∧ ∃ q10, CtI d M_Mo_number [(2, v0), (0, 2), (0, 4)] kd (zup m9 ((zup m6 ((zup m3 (m v0 1) 0 x2) v0 1) 1 x5) v0 1) 2 x8) q10 ∧ ∀ x11 m12, q10 x11 m12 → (zIn kd ((zup m9 ((zup m6 ((zup m3 (m v0 1) 0 x2) v0 1) 1 x5) v0 1) 2 x8) v0 1) 0 3 ∧ (Ev (d + 1) M_Mo_tell 0 0 100 [(2, v0), (0, 0), zJ] [] kd (zup m12 ((zup m9 ((zup m6 ((zup m3 (m v0 1) 0 x2) v0 1) 1 x5) v0 1) 2 x8) v0 1) 3 x11) (zqI kd q)))))))))))) : Ev (d + 1) M_Mo_tell 0 0 50 [(2, v0), zJ, zJ] [] kd m (zqI kd q) := by
  obtain ⟨o1, h⟩ := h
  refine EvX.blk (pc' := 58) [(.aload_n 0, 0, 0), (.getfield 13, 8, 1), (.iconst 0, 0, 0), (.aload_n 0, 0, 0), (.iconst 1, 0, 0), (.iconst 5, 0, 0)] (by decide +kernel) ⟨g_Mo_13, trivial⟩ ⟨o1, ?_⟩
  show Ev (d + 1) M_Mo_tell 0 0 58 [(2, v0), zJ, zJ] [(0, 5), (0, 1), (2, v0), (0, 0), (2, m v0 1)] kd m (zqI kd q)
  obtain ⟨ov, h⟩ := h
  obtain ⟨q1, hq, h⟩ := h
  refine EvX.callV (c := 8) (mc := 0) (ms := 0) (as := [(0, 1), (0, 5)]) (st := [(0, 0), (2, m v0 1)]) (by decide +kernel) l_Mo_144 k_Mo_number v_Mo_number a_Mo_number (by decide) (Nat.le_of_ble_eq_true rfl) rfl ov hq (fun r kd1 m3 hr => ?_)
  obtain ⟨x2, rfl, hk, hr⟩ := hr
  subst kd1
  have h := h x2 m3 hr
  show Ev (d + 1) M_Mo_tell 0 0 61 [(2, v0), zJ, zJ] [(0, x2), (0, 0), (2, m v0 1)] kd m3 (zqI kd q)
  obtain ⟨o1, o2, h⟩ := h
  refine EvX.blk (pc' := 70) [(.iastore, 0, 0), (.aload_n 0, 0, 0), (.getfield 13, 8, 1), (.iconst 1, 0, 0), (.aload_n 0, 0, 0), (.iconst 1, 0, 0), (.iconst 5, 0, 0)] (by decide +kernel) ⟨g_Mo_13, trivial⟩ ⟨o1, o2, ?_⟩
  show Ev (d + 1) M_Mo_tell 0 0 70 [(2, v0), zJ, zJ] [(0, 5), (0, 1), (2, v0), (0, 1), (2, (zup m3 (m v0 1) 0 x2) v0 1)] kd (zup m3 (m v0 1) 0 x2) (zqI kd q)
  obtain ⟨ov, h⟩ := h
  obtain ⟨q4, hq, h⟩ := h
  refine EvX.callV (c := 8) (mc := 0) (ms := 0) (as := [(0, 1), (0, 5)]) (st := [(0, 1), (2, (zup m3 (m v0 1) 0 x2) v0 1)]) (by decide +kernel) l_Mo_144 k_Mo_number v_Mo_number a_Mo_number (by decide) (Nat.le_of_ble_eq_true rfl) rfl ov hq (fun r kd1 m6 hr => ?_)
  obtain ⟨x5, rfl, hk, hr⟩ := hr
  subst kd1
  have h := h x5 m6 hr
  show Ev (d + 1) M_Mo_tell 0 0 73 [(2, v0), zJ, zJ] [(0, x5), (0, 1), (2, (zup m3 (m v0 1) 0 x2) v0 1)] kd m6 (zqI kd q)
  obtain ⟨o1, o2, h⟩ := h
  refine EvX.blk (pc' := 82) [(.iastore, 0, 0), (.aload_n 0, 0, 0), (.getfield 13, 8, 1), (.iconst 2, 0, 0), (.aload_n 0, 0, 0), (.iconst 2, 0, 0), (.iconst 4, 0, 0)] (by decide +kernel) ⟨g_Mo_13, trivial⟩ ⟨o1, o2, ?_⟩
  show Ev (d + 1) M_Mo_tell 0 0 82 [(2, v0), zJ, zJ] [(0, 4), (0, 2), (2, v0), (0, 2), (2, (zup m6 ((zup m3 (m v0 1) 0 x2) v0 1) 1 x5) v0 1)] kd (zup m6 ((zup m3 (m v0 1) 0 x2) v0 1) 1 x5) (zqI kd q)
  obtain ⟨ov, h⟩ := h
  obtain ⟨q7, hq, h⟩ := h
  refine EvX.callV (c := 8) (mc := 0) (ms := 0) (as := [(0, 2), (0, 4)]) (st := [(0, 2), (2, (zup m6 ((zup m3 (m v0 1) 0 x2) v0 1) 1 x5) v0 1)]) (by decide +kernel) l_Mo_144 k_Mo_number v_Mo_number a_Mo_number (by decide) (Nat.le_of_ble_eq_true rfl) rfl ov hq (fun r kd1 m9 hr => ?_)
  obtain ⟨x8, rfl, hk, hr⟩ := hr
  subst kd1
  have h := h x8 m9 hr
  show Ev (d + 1) M_Mo_tell 0 0 85 [(2, v0), zJ, zJ] [(0, x8), (0, 2), (2, (zup m6 ((zup m3 (m v0 1) 0 x2) v0 1) 1 x5) v0 1)] kd m9 (zqI kd q)
  obtain ⟨o1, o2, h⟩ := h
  refine EvX.blk (pc' := 94) [(.iastore, 0, 0), (.aload_n 0, 0, 0), (.getfield 13, 8, 1), (.iconst 3, 0, 0), (.aload_n 0, 0, 0), (.iconst 2, 0, 0), (.iconst 4, 0, 0)] (by decide +kernel) ⟨g_Mo_13, trivial⟩ ⟨o1, o2, ?_⟩
  show Ev (d + 1) M_Mo_tell 0 0 94 [(2, v0), zJ, zJ] [(0, 4), (0, 2), (2, v0), (0, 3), (2, (zup m9 ((zup m6 ((zup m3 (m v0 1) 0 x2) v0 1) 1 x5) v0 1) 2 x8) v0 1)] kd (zup m9 ((zup m6 ((zup m3 (m v0 1) 0 x2) v0 1) 1 x5) v0 1) 2 x8) (zqI kd q)
  obtain ⟨ov, h⟩ := h
  obtain ⟨q10, hq, h⟩ := h
  refine EvX.callV (c := 8) (mc := 0) (ms := 0) (as := [(0, 2), (0, 4)]) (st := [(0, 3), (2, (zup m9 ((zup m6 ((zup m3 (m v0 1) 0 x2) v0 1) 1 x5) v0 1) 2 x8) v0 1)]) (by decide +kernel) l_Mo_144 k_Mo_number v_Mo_number a_Mo_number (by decide) (Nat.le_of_ble_eq_true rfl) rfl ov hq (fun r kd1 m12 hr => ?_)
  obtain ⟨x11, rfl, hk, hr⟩ := hr
  subst kd1
  have h := h x11 m12 hr
  show Ev (d + 1) M_Mo_tell 0 0 97 [(2, v0), zJ, zJ] [(0, x11), (0, 3), (2, (zup m9 ((zup m6 ((zup m3 (m v0 1) 0 x2) v0 1) 1 x5) v0 1) 2 x8) v0 1)] kd m12 (zqI kd q)
  obtain ⟨o1, h⟩ := h
  refine EvX.blk (pc' := 100) [(.iastore, 0, 0), (.iconst 0, 0, 0), (.istore_n 1, 0, 0)] (by decide +kernel) trivial ⟨o1, ?_⟩
  show Ev (d + 1) M_Mo_tell 0 0 100 [(2, v0), (0, 0), zJ] [] kd (zup m12 ((zup m9 ((zup m6 ((zup m3 (m v0 1) 0 x2) v0 1) 1 x5) v0 1) 2 x8) v0 1) 3 x11) (zqI kd q)
  exact h
set_option maxRecDepth 20000 in
set_option maxHeartbeats 1000000 in
theorem T_Mo_tell_100 {d : Nat} {kd : ZK} {m : ZM} {q : Int → ZM → Prop} {v0 v1 : Int} (h : (zobj kd v0 8 ∧ zIn kd (m v0 1) 0 0 ∧ (((m (m v0 1) 0) ≤ v1 → (Ev (d + 1) M_Mo_tell 0 0 147 [(2, v0), zJ, zJ] [] kd m (zqI kd q))) ∧ (¬ (m (m v0 1) 0) ≤ v1 → (Ev (d + 1) M_Mo_tell 0 0 112 [(2, v0), (0, v1), (0, 0)] [] kd m (zqI kd q)))))) : Ev (d + 1) M_Mo_tell 0 0 100 [(2, v0), (0, v1), zJ] [] kd m (zqI kd q) := by
  obtain ⟨o1, o2, h⟩ := h
  refine EvX.blk (pc' := 107) [(.iload_n 1, 0, 0), (.aload_n 0, 0, 0), (.getfield 13, 8, 1), (.iconst 0, 0, 0), (.iaload, 0, 0)] (by decide +kernel) ⟨g_Mo_13, trivial⟩ ⟨o1, o2, ?_⟩
  show Ev (d + 1) M_Mo_tell 0 0 107 [(2, v0), (0, v1), zJ] [(0, m (m v0 1) 0), (0, v1)] kd m (zqI kd q)
  refine EvX.icmp_ge (off := 40) (tgt := 147) (by decide +kernel) (by decide) (fun hc => ?_) (fun hc => ?_)
  · have h := h.1 hc
    exact EvX.weak (ls2 := [(2, v0), zJ, zJ]) (zwk_of ⟨Or.inr rfl, Or.inl rfl, Or.inl rfl, trivial⟩) h
  · have h := h.2 hc
    refine EvX.blk (pc' := 112) [(.iconst 0, 0, 0), (.istore_n 2, 0, 0)] (by decide +kernel) trivial ?_
    show Ev (d + 1) M_Mo_tell 0 0 112 [(2, v0), (0, v1), (0, 0)] [] kd m (zqI kd q)
    exact h
set_option maxRecDepth 20000 in
set_option maxHeartbeats 1000000 in
theorem T_Mo_tell_112 {d : Nat} {kd : ZK} {m : ZM} {q : Int → ZM → Prop} {v0 v1 v2 : Int} (h : (zobj kd v0 8 ∧ zIn kd (m v0 1) 0 1 ∧ (((m (m v0 1) 1) ≤ v2 → (Ev (d + 1) M_Mo_tell 0 0 100 [(2, v0), (0, iw (v1 + 1)), zJ] [] kd m (zqI kd q))) ∧ (¬ (m (m v0 1) 1) ≤ v2 → (zobj kd v0 8 ∧ (∃ q1, CtI d M_Mo_twoOf [(0, v1), (0, v2)] kd m q1 ∧ ∀ x2 m3, q1 x2 m3 → (zIn kd (m v0 1) 0 (iw (4 + x2)) ∧ (Ev (d + 1) M_Mo_tell 0 0 112 [(2, v0), (0, v1), (0, iw (v2 + 1))] [] kd (zup m3 (m v0 1) (iw (4 + x2)) 1) (zqI kd q))))))))) : Ev (d + 1) M_Mo_tell 0 0 112 [(2, v0), (0, v1), (0, v2)] [] kd m (zqI kd q) := by
  obtain ⟨o1, o2, h⟩ := h
  refine EvX.blk (pc' := 119) [(.iload_n 2, 0, 0), (.aload_n 0, 0, 0), (.getfield 13, 8, 1), (.iconst 1, 0, 0), (.iaload, 0, 0)] (by decide +kernel) ⟨g_Mo_13, trivial⟩ ⟨o1, o2, ?_⟩
  show Ev (d + 1) M_Mo_tell 0 0 119 [(2, v0), (0, v1), (0, v2)] [(0, m (m v0 1) 1), (0, v2)] kd m (zqI kd q)
  refine EvX.icmp_ge (off := 22) (tgt := 141) (by decide +kernel) (by decide) (fun hc => ?_) (fun hc => ?_)
  · have h := h.1 hc
    refine EvX.blk (pc' := 144) [(.iinc 1 1, 0, 0)] (by decide +kernel) trivial ?_
    show Ev (d + 1) M_Mo_tell 0 0 144 [(2, v0), (0, iw (v1 + 1)), (0, v2)] [] kd m (zqI kd q)
    refine EvX.goto (off := (-44)) (tgt := 100) (by decide +kernel) (by decide) ?_
    exact EvX.weak (ls2 := [(2, v0), (0, iw (v1 + 1)), zJ]) (zwk_of ⟨Or.inr rfl, Or.inr rfl, Or.inl rfl, trivial⟩) h
  · have h := h.2 hc
    obtain ⟨o1, h⟩ := h
    refine EvX.blk (pc' := 129) [(.aload_n 0, 0, 0), (.getfield 13, 8, 1), (.iconst 4, 0, 0), (.iload_n 1, 0, 0), (.iload_n 2, 0, 0)] (by decide +kernel) ⟨g_Mo_13, trivial⟩ ⟨o1, ?_⟩
    show Ev (d + 1) M_Mo_tell 0 0 129 [(2, v0), (0, v1), (0, v2)] [(0, v2), (0, v1), (0, 4), (2, m v0 1)] kd m (zqI kd q)
    obtain ⟨q1, hq, h⟩ := h
    refine EvX.callS (mc := 0) (ms := 0) (as := [(0, v1), (0, v2)]) (st := [(0, 4), (2, m v0 1)]) (by decide +kernel) l_Mo_60 k_Mo_twoOf s_Mo_twoOf a_Mo_twoOf (by decide) (Nat.le_of_ble_eq_true rfl) hq (fun r kd1 m3 hr => ?_)
    obtain ⟨x2, rfl, hk, hr⟩ := hr
    subst kd1
    have h := h x2 m3 hr
    show Ev (d + 1) M_Mo_tell 0 0 132 [(2, v0), (0, v1), (0, v2)] [(0, x2), (0, 4), (2, m v0 1)] kd m3 (zqI kd q)
    obtain ⟨o1, h⟩ := h
    refine EvX.blk (pc' := 138) [(.iadd, 0, 0), (.iconst 1, 0, 0), (.iastore, 0, 0), (.iinc 2 1, 0, 0)] (by decide +kernel) trivial ⟨o1, ?_⟩
    show Ev (d + 1) M_Mo_tell 0 0 138 [(2, v0), (0, v1), (0, iw (v2 + 1))] [] kd (zup m3 (m v0 1) (iw (4 + x2)) 1) (zqI kd q)
    refine EvX.goto (off := (-26)) (tgt := 112) (by decide +kernel) (by decide) ?_
    exact h
set_option maxRecDepth 20000 in
set_option maxHeartbeats 1000000 in
theorem T_Mo_tell_147 {d : Nat} {kd : ZK} {m : ZM} {q : Int → ZM → Prop} {v0 : Int} (h : (zobj kd v0 8 ∧ ∃ q1, CtI d M_Mo_isRight [(2, v0)] kd m q1 ∧ ∀ x2 m3, q1 x2 m3 → ((x2 = 0 → (Ev (d + 1) M_Mo_tell 0 0 180 [(2, v0), zJ, zJ] [] kd m3 (zqI kd q))) ∧ (¬ x2 = 0 → (zobj kd v0 8 ∧ ∃ q4, CtI d M_Mo_next [(2, v0)] kd m3 q4 ∧ ∀ x5 m6, q4 x5 m6 → ((x5 ≠ 59 → (Ev (d + 1) M_Mo_tell 0 0 180 [(2, v0), zJ, zJ] [] kd m6 (zqI kd q))) ∧ (¬ x5 ≠ 59 → (zobj kd v0 8 ∧ zobj kd v0 8 ∧ (zobj kd v0 8 ∧ ∃ q7, CtV d M_Mo_readsPart [(2, v0)] kd (zup m6 v0 9 (iw ((m6 v0 9) + 1))) q7 ∧ ∀ m9, q7 m9 → (Ev (d + 1) M_Mo_tell 0 0 147 [(2, v0), zJ, zJ] [] kd m9 (zqI kd q))))))))))) : Ev (d + 1) M_Mo_tell 0 0 147 [(2, v0), zJ, zJ] [] kd m (zqI kd q) := by
  refine EvX.blk (pc' := 148) [(.aload_n 0, 0, 0)] (by decide +kernel) trivial ?_
  show Ev (d + 1) M_Mo_tell 0 0 148 [(2, v0), zJ, zJ] [(2, v0)] kd m (zqI kd q)
  obtain ⟨ov, h⟩ := h
  obtain ⟨q1, hq, h⟩ := h
  refine EvX.callV (c := 8) (mc := 0) (ms := 0) (as := []) (st := []) (by decide +kernel) l_Mo_82 k_Mo_isRight v_Mo_isRight a_Mo_isRight (by decide) (Nat.le_of_ble_eq_true rfl) rfl ov hq (fun r kd1 m3 hr => ?_)
  obtain ⟨x2, rfl, hk, hr⟩ := hr
  subst kd1
  have h := h x2 m3 hr
  show Ev (d + 1) M_Mo_tell 0 0 151 [(2, v0), zJ, zJ] [(0, x2)] kd m3 (zqI kd q)
  refine EvX.if_eq (off := 29) (tgt := 180) (by decide +kernel) (by decide) (fun hc => ?_) (fun hc => ?_)
  · have h := h.1 hc
    exact h
  · have h := h.2 hc
    refine EvX.blk (pc' := 155) [(.aload_n 0, 0, 0)] (by decide +kernel) trivial ?_
    show Ev (d + 1) M_Mo_tell 0 0 155 [(2, v0), zJ, zJ] [(2, v0)] kd m3 (zqI kd q)
    obtain ⟨ov, h⟩ := h
    obtain ⟨q4, hq, h⟩ := h
    refine EvX.callV (c := 8) (mc := 0) (ms := 0) (as := []) (st := []) (by decide +kernel) l_Mo_86 k_Mo_next v_Mo_next a_Mo_next (by decide) (Nat.le_of_ble_eq_true rfl) rfl ov hq (fun r kd1 m6 hr => ?_)
    obtain ⟨x5, rfl, hk, hr⟩ := hr
    subst kd1
    have h := h x5 m6 hr
    show Ev (d + 1) M_Mo_tell 0 0 158 [(2, v0), zJ, zJ] [(0, x5)] kd m6 (zqI kd q)
    refine EvX.blk (pc' := 160) [(.bipush 59, 0, 0)] (by decide +kernel) trivial ?_
    show Ev (d + 1) M_Mo_tell 0 0 160 [(2, v0), zJ, zJ] [(0, 59), (0, x5)] kd m6 (zqI kd q)
    refine EvX.icmp_ne (off := 20) (tgt := 180) (by decide +kernel) (by decide) (fun hc => ?_) (fun hc => ?_)
    · have h := h.1 hc
      exact h
    · have h := h.2 hc
      obtain ⟨o1, o2, h⟩ := h
      refine EvX.blk (pc' := 174) [(.aload_n 0, 0, 0), (.dup, 0, 0), (.getfield 72, 8, 9), (.iconst 1, 0, 0), (.iadd, 0, 0), (.putfield 72, 8, 9), (.aload_n 0, 0, 0)] (by decide +kernel) ⟨g_Mo_72, ⟨g_Mo_72, p_Mo_72⟩, trivial⟩ ⟨o1, rfl, o2, ?_⟩
      show Ev (d + 1) M_Mo_tell 0 0 174 [(2, v0), zJ, zJ] [(2, v0)] kd (zup m6 v0 9 (iw ((m6 v0 9) + 1))) (zqI kd q)
      obtain ⟨ov, h⟩ := h
      obtain ⟨q7, hq, h⟩ := h
      refine EvX.callV (c := 8) (mc := 0) (ms := 0) (as := []) (st := []) (by decide +kernel) l_Mo_153 k_Mo_readsPart v_Mo_readsPart a_Mo_readsPart (by decide) (Nat.le_of_ble_eq_true rfl) rfl ov hq (fun r kd1 m9 hr => ?_)
      obtain ⟨rfl, hk, hr⟩ := hr
      subst kd1
      have h := h m9 hr
      show Ev (d + 1) M_Mo_tell 0 0 177 [(2, v0), zJ, zJ] [] kd m9 (zqI kd q)
      refine EvX.goto (off := (-30)) (tgt := 147) (by decide +kernel) (by decide) ?_
      exact h
set_option maxRecDepth 20000 in
set_option maxHeartbeats 1000000 in
theorem T_Mo_tell_180 {d : Nat} {kd : ZK} {m : ZM} {q : Int → ZM → Prop} {v0 : Int} (h : (zobj kd v0 8 ∧ ∃ q1, CtI d M_Mo_isRight [(2, v0)] kd m q1 ∧ ∀ x2 m3, q1 x2 m3 → ((x2 = 0 → (Ev (d + 1) M_Mo_tell 0 0 204 [(2, v0), zJ, zJ] [] kd m3 (zqI kd q))) ∧ (¬ x2 = 0 → (zobj kd v0 8 ∧ ∃ q4, CtI d M_Mo_next [(2, v0)] kd m3 q4 ∧ ∀ x5 m6, q4 x5 m6 → ((x5 = (-1) → (Ev (d + 1) M_Mo_tell 0 0 204 [(2, v0), zJ, zJ] [] kd m6 (zqI kd q))) ∧ (¬ x5 = (-1) → (zobj kd v0 8 ∧ (zobj kd v0 8 ∧ ∃ q7, CtV d M_Mo_fails [(2, v0), (0, 1), (0, m6 v0 9)] kd m6 q7 ∧ ∀ m9, q7 m9 → (Ev (d + 1) M_Mo_tell 0 0 204 [(2, v0), zJ, zJ] [] kd m9 (zqI kd q))))))))))) : Ev (d + 1) M_Mo_tell 0 0 180 [(2, v0), zJ, zJ] [] kd m (zqI kd q) := by
  refine EvX.blk (pc' := 181) [(.aload_n 0, 0, 0)] (by decide +kernel) trivial ?_
  show Ev (d + 1) M_Mo_tell 0 0 181 [(2, v0), zJ, zJ] [(2, v0)] kd m (zqI kd q)
  obtain ⟨ov, h⟩ := h
  obtain ⟨q1, hq, h⟩ := h
  refine EvX.callV (c := 8) (mc := 0) (ms := 0) (as := []) (st := []) (by decide +kernel) l_Mo_82 k_Mo_isRight v_Mo_isRight a_Mo_isRight (by decide) (Nat.le_of_ble_eq_true rfl) rfl ov hq (fun r kd1 m3 hr => ?_)
  obtain ⟨x2, rfl, hk, hr⟩ := hr
  subst kd1
  have h := h x2 m3 hr
  show Ev (d + 1) M_Mo_tell 0 0 184 [(2, v0), zJ, zJ] [(0, x2)] kd m3 (zqI kd q)
  refine EvX.if_eq (off := 20) (tgt := 204) (by decide +kernel) (by decide) (fun hc => ?_) (fun hc => ?_)
  · have h := h.1 hc
    exact h
  · have h := h.2 hc
    refine EvX.blk (pc' := 188) [(.aload_n 0, 0, 0)] (by decide +kernel) trivial ?_
    show Ev (d + 1) M_Mo_tell 0 0 188 [(2, v0), zJ, zJ] [(2, v0)] kd m3 (zqI kd q)
    obtain ⟨ov, h⟩ := h
    obtain ⟨q4, hq, h⟩ := h
    refine EvX.callV (c := 8) (mc := 0) (ms := 0) (as := []) (st := []) (by decide +kernel) l_Mo_86 k_Mo_next v_Mo_next a_Mo_next (by decide) (Nat.le_of_ble_eq_true rfl) rfl ov hq (fun r kd1 m6 hr => ?_)
    obtain ⟨x5, rfl, hk, hr⟩ := hr
    subst kd1
    have h := h x5 m6 hr
    show Ev (d + 1) M_Mo_tell 0 0 191 [(2, v0), zJ, zJ] [(0, x5)] kd m6 (zqI kd q)
    refine EvX.blk (pc' := 192) [(.iconst (-1), 0, 0)] (by decide +kernel) trivial ?_
    show Ev (d + 1) M_Mo_tell 0 0 192 [(2, v0), zJ, zJ] [(0, (-1)), (0, x5)] kd m6 (zqI kd q)
    refine EvX.icmp_eq (off := 12) (tgt := 204) (by decide +kernel) (by decide) (fun hc => ?_) (fun hc => ?_)
    · have h := h.1 hc
      exact h
    · have h := h.2 hc
      obtain ⟨o1, h⟩ := h
      refine EvX.blk (pc' := 201) [(.aload_n 0, 0, 0), (.iconst 1, 0, 0), (.aload_n 0, 0, 0), (.getfield 72, 8, 9)] (by decide +kernel) ⟨g_Mo_72, trivial⟩ ⟨o1, ?_⟩
      show Ev (d + 1) M_Mo_tell 0 0 201 [(2, v0), zJ, zJ] [(0, m6 v0 9), (0, 1), (2, v0)] kd m6 (zqI kd q)
      obtain ⟨ov, h⟩ := h
      obtain ⟨q7, hq, h⟩ := h
      refine EvX.callV (c := 8) (mc := 0) (ms := 0) (as := [(0, 1), (0, m6 v0 9)]) (st := []) (by decide +kernel) l_Mo_110 k_Mo_fails v_Mo_fails a_Mo_fails (by decide) (Nat.le_of_ble_eq_true rfl) rfl ov hq (fun r kd1 m9 hr => ?_)
      obtain ⟨rfl, hk, hr⟩ := hr
      subst kd1
      have h := h m9 hr
      show Ev (d + 1) M_Mo_tell 0 0 204 [(2, v0), zJ, zJ] [] kd m9 (zqI kd q)
      exact h
set_option maxRecDepth 20000 in
set_option maxHeartbeats 1000000 in
theorem T_Mo_tell_204 {d : Nat} {kd : ZK} {m : ZM} {q : Int → ZM → Prop} {v0 : Int} (h : (zobj kd v0 8 ∧ (zobj kd v0 8 ∧ ∃ q1, CtI d M_Mo_isRight [(2, v0)] kd (zup m v0 8 0) q1 ∧ ∀ x2 m3, q1 x2 m3 → ((x2 ≠ 0 → (zobj kd v0 8 ∧ zobj kd v0 8 ∧ (∃ q4, CtV d M_Mo_moves [(2, m3 v0 1), (0, 0), (2, m3 v0 0), (0, 0)] kd m3 q4 ∧ ∀ m6, q4 m6 → (zobj kd v0 8 ∧ zobj kd v0 8 ∧ zIn kd ((zup m6 v0 6 0) v0 0) 0 0 ∧ q ((zup m6 v0 6 0) ((zup m6 v0 6 0) v0 0) 0) (zup m6 v0 6 0))))) ∧ (¬ x2 ≠ 0 → (zobj kd v0 8 ∧ q (iw ((-2) - (m3 v0 10))) m3)))))) : Ev (d + 1) M_Mo_tell 0 0 204 [(2, v0), zJ, zJ] [] kd m (zqI kd q) := by
  obtain ⟨o1, h⟩ := h
  refine EvX.blk (pc' := 210) [(.aload_n 0, 0, 0), (.iconst 0, 0, 0), (.putfield 64, 8, 8), (.aload_n 0, 0, 0)] (by decide +kernel) ⟨⟨g_Mo_64, p_Mo_64⟩, trivial⟩ ⟨rfl, o1, ?_⟩
  show Ev (d + 1) M_Mo_tell 0 0 210 [(2, v0), zJ, zJ] [(2, v0)] kd (zup m v0 8 0) (zqI kd q)
  obtain ⟨ov, h⟩ := h
  obtain ⟨q1, hq, h⟩ := h
  refine EvX.callV (c := 8) (mc := 0) (ms := 0) (as := []) (st := []) (by decide +kernel) l_Mo_82 k_Mo_isRight v_Mo_isRight a_Mo_isRight (by decide) (Nat.le_of_ble_eq_true rfl) rfl ov hq (fun r kd1 m3 hr => ?_)
  obtain ⟨x2, rfl, hk, hr⟩ := hr
  subst kd1
  have h := h x2 m3 hr
  show Ev (d + 1) M_Mo_tell 0 0 213 [(2, v0), zJ, zJ] [(0, x2)] kd m3 (zqI kd q)
  refine EvX.if_ne (off := 11) (tgt := 224) (by decide +kernel) (by decide) (fun hc => ?_) (fun hc => ?_)
  · have h := h.1 hc
    obtain ⟨o1, o2, h⟩ := h
    refine EvX.blk (pc' := 234) [(.aload_n 0, 0, 0), (.getfield 13, 8, 1), (.iconst 0, 0, 0), (.aload_n 0, 0, 0), (.getfield 9, 8, 0), (.iconst 0, 0, 0)] (by decide +kernel) ⟨g_Mo_13, g_Mo_9, trivial⟩ ⟨o1, o2, ?_⟩
    show Ev (d + 1) M_Mo_tell 0 0 234 [(2, v0), zJ, zJ] [(0, 0), (2, m3 v0 0), (0, 0), (2, m3 v0 1)] kd m3 (zqI kd q)
    obtain ⟨q4, hq, h⟩ := h
    refine EvX.callS (mc := 0) (ms := 0) (as := [(2, m3 v0 1), (0, 0), (2, m3 v0 0), (0, 0)]) (st := []) (by decide +kernel) l_Mo_156 k_Mo_moves s_Mo_moves a_Mo_moves (by decide) (Nat.le_of_ble_eq_true rfl) hq (fun r kd1 m6 hr => ?_)
    obtain ⟨rfl, hk, hr⟩ := hr
    subst kd1
    have h := h m6 hr
    show Ev (d + 1) M_Mo_tell 0 0 237 [(2, v0), zJ, zJ] [] kd m6 (zqI kd q)
    obtain ⟨o1, o2, o3, h⟩ := h
    refine EvX.blk (pc' := 248) [(.aload_n 0, 0, 0), (.iconst 0, 0, 0), (.putfield 160, 8, 6), (.aload_n 0, 0, 0), (.getfield 9, 8, 0), (.iconst 0, 0, 0), (.iaload, 0, 0)] (by decide +kernel) ⟨⟨g_Mo_160, p_Mo_160⟩, g_Mo_9, trivial⟩ ⟨rfl, o1, o2, o3, ?_⟩
    show Ev (d + 1) M_Mo_tell 0 0 248 [(2, v0), zJ, zJ] [(0, (zup m6 v0 6 0) ((zup m6 v0 6 0) v0 0) 0)] kd (zup m6 v0 6 0) (zqI kd q)
    exact EvX.ret (r := (0, (zup m6 v0 6 0) ((zup m6 v0 6 0) v0 0) 0)) (by decide +kernel) rfl ⟨_, rfl, rfl, h⟩
  · have h := h.2 hc
    obtain ⟨o1, h⟩ := h
    refine EvX.blk (pc' := 223) [(.bipush (-2), 0, 0), (.aload_n 0, 0, 0), (.getfield 79, 8, 10), (.isub, 0, 0)] (by decide +kernel) ⟨g_Mo_79, trivial⟩ ⟨o1, ?_⟩
    show Ev (d + 1) M_Mo_tell 0 0 223 [(2, v0), zJ, zJ] [(0, iw ((-2) - (m3 v0 10)))] kd m3 (zqI kd q)
    exact EvX.ret (r := (0, iw ((-2) - (m3 v0 10)))) (by decide +kernel) rfl ⟨_, rfl, rfl, h⟩
set_option maxRecDepth 20000 in
set_option maxHeartbeats 1000000 in
theorem T_Mo_hasGame_0 {d : Nat} {kd : ZK} {m : ZM} {q : Int → ZM → Prop} {v0 : Int} (h : (zobj kd v0 8 ∧ zIn kd (m v0 0) 0 0 ∧ (((m (m v0 0) 0) ≤ 0 → q 0 m) ∧ (¬ (m (m v0 0) 0) ≤ 0 → q 1 m)))) : Ev (d + 1) M_Mo_hasGame 0 0 0 [(2, v0)] [] kd m (zqI kd q) := by
  obtain ⟨o1, o2, h⟩ := h
  refine EvX.blk (pc' := 6) [(.aload_n 0, 0, 0), (.getfield 9, 8, 0), (.iconst 0, 0, 0), (.iaload, 0, 0)] (by decide +kernel) ⟨g_Mo_9, trivial⟩ ⟨o1, o2, ?_⟩
  show Ev (d + 1) M_Mo_hasGame 0 0 6 [(2, v0)] [(0, m (m v0 0) 0)] kd m (zqI kd q)
  refine EvX.if_le (off := 7) (tgt := 13) (by decide +kernel) (by decide) (fun hc => ?_) (fun hc => ?_)
  · have h := h.1 hc
    refine EvX.blk (pc' := 14) [(.iconst 0, 0, 0)] (by decide +kernel) trivial ?_
    show Ev (d + 1) M_Mo_hasGame 0 0 14 [(2, v0)] [(0, 0)] kd m (zqI kd q)
    exact EvX.ret (r := (0, 0)) (by decide +kernel) ⟨rfl, by decide, by decide⟩ ⟨_, rfl, rfl, h⟩
  · have h := h.2 hc
    refine EvX.blk (pc' := 10) [(.iconst 1, 0, 0)] (by decide +kernel) trivial ?_
    show Ev (d + 1) M_Mo_hasGame 0 0 10 [(2, v0)] [(0, 1)] kd m (zqI kd q)
    refine EvX.goto (off := 4) (tgt := 14) (by decide +kernel) (by decide) ?_
    exact EvX.ret (r := (0, 1)) (by decide +kernel) ⟨rfl, by decide, by decide⟩ ⟨_, rfl, rfl, h⟩
theorem S_Mo_hasGame {d : Nat} {kd : ZK} {m : ZM} {q : Int → ZM → Prop} {v0 : Int} (h : (zobj kd v0 8 ∧ zIn kd (m v0 0) 0 0 ∧ (((m (m v0 0) 0) ≤ 0 → q 0 m) ∧ (¬ (m (m v0 0) 0) ≤ 0 → q 1 m)))) : CtI (d + 1) M_Mo_hasGame [(2, v0)] kd m q :=
  Ct.start k_Mo_hasGame (Nat.le_of_ble_eq_true rfl) ⟨2, Or.inr (Or.inr (Or.inl ⟨rfl, rfl⟩))⟩ (T_Mo_hasGame_0 h)
set_option maxRecDepth 20000 in
set_option maxHeartbeats 1000000 in
theorem T_Mo_questions_0 {d : Nat} {kd : ZK} {m : ZM} {q : Int → ZM → Prop} {v0 v1 : Int} (h : (zobj kd v0 8 ∧ zIn kd (m v0 0) 0 (iw (0 + v1)) ∧ q (m (m v0 0) (iw (0 + v1))) m)) : Ev (d + 1) M_Mo_questions 0 0 0 [(2, v0), (0, v1)] [] kd m (zqI kd q) := by
  obtain ⟨o1, o2, h⟩ := h
  refine EvX.blk (pc' := 8) [(.aload_n 0, 0, 0), (.getfield 9, 8, 0), (.iconst 0, 0, 0), (.iload_n 1, 0, 0), (.iadd, 0, 0), (.iaload, 0, 0)] (by decide +kernel) ⟨g_Mo_9, trivial⟩ ⟨o1, o2, ?_⟩
  show Ev (d + 1) M_Mo_questions 0 0 8 [(2, v0), (0, v1)] [(0, m (m v0 0) (iw (0 + v1)))] kd m (zqI kd q)
  exact EvX.ret (r := (0, m (m v0 0) (iw (0 + v1)))) (by decide +kernel) rfl ⟨_, rfl, rfl, h⟩
theorem S_Mo_questions {d : Nat} {kd : ZK} {m : ZM} {q : Int → ZM → Prop} {v0 v1 : Int} (h : (zobj kd v0 8 ∧ zIn kd (m v0 0) 0 (iw (0 + v1)) ∧ q (m (m v0 0) (iw (0 + v1))) m)) : CtI (d + 1) M_Mo_questions [(2, v0), (0, v1)] kd m q :=
  Ct.start k_Mo_questions (Nat.le_of_ble_eq_true rfl) ⟨1, Or.inr (Or.inl ⟨rfl, rfl⟩)⟩ (T_Mo_questions_0 h)
set_option maxRecDepth 20000 in
set_option maxHeartbeats 1000000 in
theorem T_Mo_answers_0 {d : Nat} {kd : ZK} {m : ZM} {q : Int → ZM → Prop} {v0 v1 : Int} (h : (zobj kd v0 8 ∧ zIn kd (m v0 0) 0 (iw (2 + v1)) ∧ q (m (m v0 0) (iw (2 + v1))) m)) : Ev (d + 1) M_Mo_answers 0 0 0 [(2, v0), (0, v1)] [] kd m (zqI kd q) := by
  obtain ⟨o1, o2, h⟩ := h
  refine EvX.blk (pc' := 8) [(.aload_n 0, 0, 0), (.getfield 9, 8, 0), (.iconst 2, 0, 0), (.iload_n 1, 0, 0), (.iadd, 0, 0), (.iaload, 0, 0)] (by decide +kernel) ⟨g_Mo_9, trivial⟩ ⟨o1, o2, ?_⟩
  show Ev (d + 1) M_Mo_answers 0 0 8 [(2, v0), (0, v1)] [(0, m (m v0 0) (iw (2 + v1)))] kd m (zqI kd q)
  exact EvX.ret (r := (0, m (m v0 0) (iw (2 + v1)))) (by decide +kernel) rfl ⟨_, rfl, rfl, h⟩
theorem S_Mo_answers {d : Nat} {kd : ZK} {m : ZM} {q : Int → ZM → Prop} {v0 v1 : Int} (h : (zobj kd v0 8 ∧ zIn kd (m v0 0) 0 (iw (2 + v1)) ∧ q (m (m v0 0) (iw (2 + v1))) m)) : CtI (d + 1) M_Mo_answers [(2, v0), (0, v1)] kd m q :=
  Ct.start k_Mo_answers (Nat.le_of_ble_eq_true rfl) ⟨1, Or.inr (Or.inl ⟨rfl, rfl⟩)⟩ (T_Mo_answers_0 h)
set_option maxRecDepth 20000 in
set_option maxHeartbeats 1000000 in
theorem T_Mo_isPlayer_0 {d : Nat} {kd : ZK} {m : ZM} {q : Int → ZM → Prop} {v0 : Int} (h : (∃ q1, CtI d M_Mo_in [(1, v0), (1, 0), (1, 1)] kd m q1 ∧ ∀ x2 m3, q1 x2 m3 → ((0 ≤ x2 ∧ x2 ≤ 1) ∧ q x2 m3))) : Ev (d + 1) M_Mo_isPlayer 0 0 0 [(0, v0)] [] kd m (zqI kd q) := by
  refine EvX.blk (pc' := 4) [(.iload_n 0, 0, 0), (.i2l, 0, 0), (.lconst 0, 0, 0), (.lconst 1, 0, 0)] (by decide +kernel) trivial ?_
  show Ev (d + 1) M_Mo_isPlayer 0 0 4 [(0, v0)] [(1, 1), (1, 0), (1, v0)] kd m (zqI kd q)
  obtain ⟨q1, hq, h⟩ := h
  refine EvX.callS (mc := 0) (ms := 0) (as := [(1, v0), (1, 0), (1, 1)]) (st := []) (by decide +kernel) l_Mo_93 k_Mo_in s_Mo_in a_Mo_in (by decide) (Nat.le_of_ble_eq_true rfl) hq (fun r kd1 m3 hr => ?_)
  obtain ⟨x2, rfl, hk, hr⟩ := hr
  subst kd1
  have h := h x2 m3 hr
  show Ev (d + 1) M_Mo_isPlayer 0 0 7 [(0, v0)] [(0, x2)] kd m3 (zqI kd q)
  exact EvX.ret (r := (0, x2)) (by decide +kernel) ⟨rfl, h.1.1, h.1.2⟩ ⟨_, rfl, rfl, h.2⟩
theorem S_Mo_isPlayer {d : Nat} {kd : ZK} {m : ZM} {q : Int → ZM → Prop} {v0 : Int} (h : (∃ q1, CtI d M_Mo_in [(1, v0), (1, 0), (1, 1)] kd m q1 ∧ ∀ x2 m3, q1 x2 m3 → ((0 ≤ x2 ∧ x2 ≤ 1) ∧ q x2 m3))) : CtI (d + 1) M_Mo_isPlayer [(0, v0)] kd m q :=
  Ct.start k_Mo_isPlayer (Nat.le_of_ble_eq_true rfl) ⟨2, Or.inr (Or.inr (Or.inl ⟨rfl, rfl⟩))⟩ (T_Mo_isPlayer_0 h)
set_option maxRecDepth 20000 in
set_option maxHeartbeats 1000000 in
theorem T_Mo_isQuestion_0 {d : Nat} {kd : ZK} {m : ZM} {q : Int → ZM → Prop} {v0 v1 v2 : Int} (h : (zobj kd v0 8 ∧ ∃ q1, CtI d M_Mo_questions [(2, v0), (0, v1)] kd m q1 ∧ ∀ x2 m3, q1 x2 m3 → (∃ q4, CtI d M_Mo_in [(1, v2), (1, 0), (1, iw (x2 - 1))] kd m3 q4 ∧ ∀ x5 m6, q4 x5 m6 → ((0 ≤ x5 ∧ x5 ≤ 1) ∧ q x5 m6)))) : Ev (d + 1) M_Mo_isQuestion 0 0 0 [(2, v0), (0, v1), (0, v2)] [] kd m (zqI kd q) := by
  refine EvX.blk (pc' := 5) [(.iload_n 2, 0, 0), (.i2l, 0, 0), (.lconst 0, 0, 0), (.aload_n 0, 0, 0), (.iload_n 1, 0, 0)] (by decide +kernel) trivial ?_
  show Ev (d + 1) M_Mo_isQuestion 0 0 5 [(2, v0), (0, v1), (0, v2)] [(0, v1), (2, v0), (1, 0), (1, v2)] kd m (zqI kd q)
  obtain ⟨ov, h⟩ := h
  obtain ⟨q1, hq, h⟩ := h
  refine EvX.callV (c := 8) (mc := 0) (ms := 0) (as := [(0, v1)]) (st := [(1, 0), (1, v2)]) (by decide +kernel) l_Mo_163 k_Mo_questions v_Mo_questions a_Mo_questions (by decide) (Nat.le_of_ble_eq_true rfl) rfl ov hq (fun r kd1 m3 hr => ?_)
  obtain ⟨x2, rfl, hk, hr⟩ := hr
  subst kd1
  have h := h x2 m3 hr
  show Ev (d + 1) M_Mo_isQuestion 0 0 8 [(2, v0), (0, v1), (0, v2)] [(0, x2), (1, 0), (1, v2)] kd m3 (zqI kd q)
  refine EvX.blk (pc' := 11) [(.iconst 1, 0, 0), (.isub, 0, 0), (.i2l, 0, 0)] (by decide +kernel) trivial ?_
  show Ev (d + 1) M_Mo_isQuestion 0 0 11 [(2, v0), (0, v1), (0, v2)] [(1, iw (x2 - 1)), (1, 0), (1, v2)] kd m3 (zqI kd q)
  obtain ⟨q4, hq, h⟩ := h
  refine EvX.callS (mc := 0) (ms := 0) (as := [(1, v2), (1, 0), (1, iw (x2 - 1))]) (st := []) (by decide +kernel) l_Mo_93 k_Mo_in s_Mo_in a_Mo_in (by decide) (Nat.le_of_ble_eq_true rfl) hq (fun r kd1 m6 hr => ?_)
  obtain ⟨x5, rfl, hk, hr⟩ := hr
  subst kd1
  have h := h x5 m6 hr
  show Ev (d + 1) M_Mo_isQuestion 0 0 14 [(2, v0), (0, v1), (0, v2)] [(0, x5)] kd m6 (zqI kd q)
  exact EvX.ret (r := (0, x5)) (by decide +kernel) ⟨rfl, h.1.1, h.1.2⟩ ⟨_, rfl, rfl, h.2⟩
theorem S_Mo_isQuestion {d : Nat} {kd : ZK} {m : ZM} {q : Int → ZM → Prop} {v0 v1 v2 : Int} (h : (zobj kd v0 8 ∧ ∃ q1, CtI d M_Mo_questions [(2, v0), (0, v1)] kd m q1 ∧ ∀ x2 m3, q1 x2 m3 → (∃ q4, CtI d M_Mo_in [(1, v2), (1, 0), (1, iw (x2 - 1))] kd m3 q4 ∧ ∀ x5 m6, q4 x5 m6 → ((0 ≤ x5 ∧ x5 ≤ 1) ∧ q x5 m6)))) : CtI (d + 1) M_Mo_isQuestion [(2, v0), (0, v1), (0, v2)] kd m q :=
  Ct.start k_Mo_isQuestion (Nat.le_of_ble_eq_true rfl) ⟨2, Or.inr (Or.inr (Or.inl ⟨rfl, rfl⟩))⟩ (T_Mo_isQuestion_0 h)
set_option maxRecDepth 20000 in
set_option maxHeartbeats 1000000 in
theorem T_Mo_isAnswer_0 {d : Nat} {kd : ZK} {m : ZM} {q : Int → ZM → Prop} {v0 v1 v2 : Int} (h : (zobj kd v0 8 ∧ ∃ q1, CtI d M_Mo_answers [(2, v0), (0, v1)] kd m q1 ∧ ∀ x2 m3, q1 x2 m3 → (∃ q4, CtI d M_Mo_in [(1, v2), (1, 0), (1, iw (x2 - 1))] kd m3 q4 ∧ ∀ x5 m6, q4 x5 m6 → ((0 ≤ x5 ∧ x5 ≤ 1) ∧ q x5 m6)))) : Ev (d + 1) M_Mo_isAnswer 0 0 0 [(2, v0), (0, v1), (0, v2)] [] kd m (zqI kd q) := by
  refine EvX.blk (pc' := 5) [(.iload_n 2, 0, 0), (.i2l, 0, 0), (.lconst 0, 0, 0), (.aload_n 0, 0, 0), (.iload_n 1, 0, 0)] (by decide +kernel) trivial ?_
  show Ev (d + 1) M_Mo_isAnswer 0 0 5 [(2, v0), (0, v1), (0, v2)] [(0, v1), (2, v0), (1, 0), (1, v2)] kd m (zqI kd q)
  obtain ⟨ov, h⟩ := h
  obtain ⟨q1, hq, h⟩ := h
  refine EvX.callV (c := 8) (mc := 0) (ms := 0) (as := [(0, v1)]) (st := [(1, 0), (1, v2)]) (by decide +kernel) l_Mo_167 k_Mo_answers v_Mo_answers a_Mo_answers (by decide) (Nat.le_of_ble_eq_true rfl) rfl ov hq (fun r kd1 m3 hr => ?_)
  obtain ⟨x2, rfl, hk, hr⟩ := hr
  subst kd1
  have h := h x2 m3 hr
  show Ev (d + 1) M_Mo_isAnswer 0 0 8 [(2, v0), (0, v1), (0, v2)] [(0, x2), (1, 0), (1, v2)] kd m3 (zqI kd q)
  refine EvX.blk (pc' := 11) [(.iconst 1, 0, 0), (.isub, 0, 0), (.i2l, 0, 0)] (by decide +kernel) trivial ?_
  show Ev (d + 1) M_Mo_isAnswer 0 0 11 [(2, v0), (0, v1), (0, v2)] [(1, iw (x2 - 1)), (1, 0), (1, v2)] kd m3 (zqI kd q)
  obtain ⟨q4, hq, h⟩ := h
  refine EvX.callS (mc := 0) (ms := 0) (as := [(1, v2), (1, 0), (1, iw (x2 - 1))]) (st := []) (by decide +kernel) l_Mo_93 k_Mo_in s_Mo_in a_Mo_in (by decide) (Nat.le_of_ble_eq_true rfl) hq (fun r kd1 m6 hr => ?_)
  obtain ⟨x5, rfl, hk, hr⟩ := hr
  subst kd1
  have h := h x5 m6 hr
  show Ev (d + 1) M_Mo_isAnswer 0 0 14 [(2, v0), (0, v1), (0, v2)] [(0, x5)] kd m6 (zqI kd q)
  exact EvX.ret (r := (0, x5)) (by decide +kernel) ⟨rfl, h.1.1, h.1.2⟩ ⟨_, rfl, rfl, h.2⟩
theorem S_Mo_isAnswer {d : Nat} {kd : ZK} {m : ZM} {q : Int → ZM → Prop} {v0 v1 v2 : Int} (h : (zobj kd v0 8 ∧ ∃ q1, CtI d M_Mo_answers [(2, v0), (0, v1)] kd m q1 ∧ ∀ x2 m3, q1 x2 m3 → (∃ q4, CtI d M_Mo_in [(1, v2), (1, 0), (1, iw (x2 - 1))] kd m3 q4 ∧ ∀ x5 m6, q4 x5 m6 → ((0 ≤ x5 ∧ x5 ≤ 1) ∧ q x5 m6)))) : CtI (d + 1) M_Mo_isAnswer [(2, v0), (0, v1), (0, v2)] kd m q :=
  Ct.start k_Mo_isAnswer (Nat.le_of_ble_eq_true rfl) ⟨2, Or.inr (Or.inr (Or.inl ⟨rfl, rfl⟩))⟩ (T_Mo_isAnswer_0 h)
set_option maxRecDepth 20000 in
set_option maxHeartbeats 1000000 in
theorem T_Mo_areTwo_0 {d : Nat} {kd : ZK} {m : ZM} {q : Int → ZM → Prop} {v0 v1 v2 : Int} (h : (zobj kd v0 8 ∧ ∃ q1, CtI d M_Mo_isQuestion [(2, v0), (0, 0), (0, v1)] kd m q1 ∧ ∀ x2 m3, q1 x2 m3 → ((x2 = 0 → q 0 m3) ∧ (¬ x2 = 0 → (zobj kd v0 8 ∧ ∃ q4, CtI d M_Mo_isQuestion [(2, v0), (0, 1), (0, v2)] kd m3 q4 ∧ ∀ x5 m6, q4 x5 m6 → ((x5 = 0 → q 0 m6) ∧ (¬ x5 = 0 → q 1 m6))))))) : Ev (d + 1) M_Mo_areTwo 0 0 0 [(2, v0), (0, v1), (0, v2)] [] kd m (zqI kd q) := by
  refine EvX.blk (pc' := 3) [(.aload_n 0, 0, 0), (.iconst 0, 0, 0), (.iload_n 1, 0, 0)] (by decide +kernel) trivial ?_
  show Ev (d + 1) M_Mo_areTwo 0 0 3 [(2, v0), (0, v1), (0, v2)] [(0, v1), (0, 0), (2, v0)] kd m (zqI kd q)
  obtain ⟨ov, h⟩ := h
  obtain ⟨q1, hq, h⟩ := h
  refine EvX.callV (c := 8) (mc := 0) (ms := 0) (as := [(0, 0), (0, v1)]) (st := []) (by decide +kernel) l_Mo_170 k_Mo_isQuestion v_Mo_isQuestion a_Mo_isQuestion (by decide) (Nat.le_of_ble_eq_true rfl) rfl ov hq (fun r kd1 m3 hr => ?_)
  obtain ⟨x2, rfl, hk, hr⟩ := hr
  subst kd1
  have h := h x2 m3 hr
  show Ev (d + 1) M_Mo_areTwo 0 0 6 [(2, v0), (0, v1), (0, v2)] [(0, x2)] kd m3 (zqI kd q)
  refine EvX.if_eq (off := 16) (tgt := 22) (by decide +kernel) (by decide) (fun hc => ?_) (fun hc => ?_)
  · have h := h.1 hc
    refine EvX.blk (pc' := 23) [(.iconst 0, 0, 0)] (by decide +kernel) trivial ?_
    show Ev (d + 1) M_Mo_areTwo 0 0 23 [(2, v0), (0, v1), (0, v2)] [(0, 0)] kd m3 (zqI kd q)
    exact EvX.ret (r := (0, 0)) (by decide +kernel) ⟨rfl, by decide, by decide⟩ ⟨_, rfl, rfl, h⟩
  · have h := h.2 hc
    refine EvX.blk (pc' := 12) [(.aload_n 0, 0, 0), (.iconst 1, 0, 0), (.iload_n 2, 0, 0)] (by decide +kernel) trivial ?_
    show Ev (d + 1) M_Mo_areTwo 0 0 12 [(2, v0), (0, v1), (0, v2)] [(0, v2), (0, 1), (2, v0)] kd m3 (zqI kd q)
    obtain ⟨ov, h⟩ := h
    obtain ⟨q4, hq, h⟩ := h
    refine EvX.callV (c := 8) (mc := 0) (ms := 0) (as := [(0, 1), (0, v2)]) (st := []) (by decide +kernel) l_Mo_170 k_Mo_isQuestion v_Mo_isQuestion a_Mo_isQuestion (by decide) (Nat.le_of_ble_eq_true rfl) rfl ov hq (fun r kd1 m6 hr => ?_)
    obtain ⟨x5, rfl, hk, hr⟩ := hr
    subst kd1
    have h := h x5 m6 hr
    show Ev (d + 1) M_Mo_areTwo 0 0 15 [(2, v0), (0, v1), (0, v2)] [(0, x5)] kd m6 (zqI kd q)
    refine EvX.if_eq (off := 7) (tgt := 22) (by decide +kernel) (by decide) (fun hc => ?_) (fun hc => ?_)
    · have h := h.1 hc
      refine EvX.blk (pc' := 23) [(.iconst 0, 0, 0)] (by decide +kernel) trivial ?_
      show Ev (d + 1) M_Mo_areTwo 0 0 23 [(2, v0), (0, v1), (0, v2)] [(0, 0)] kd m6 (zqI kd q)
      exact EvX.ret (r := (0, 0)) (by decide +kernel) ⟨rfl, by decide, by decide⟩ ⟨_, rfl, rfl, h⟩
    · have h := h.2 hc
      refine EvX.blk (pc' := 19) [(.iconst 1, 0, 0)] (by decide +kernel) trivial ?_
      show Ev (d + 1) M_Mo_areTwo 0 0 19 [(2, v0), (0, v1), (0, v2)] [(0, 1)] kd m6 (zqI kd q)
      refine EvX.goto (off := 4) (tgt := 23) (by decide +kernel) (by decide) ?_
      exact EvX.ret (r := (0, 1)) (by decide +kernel) ⟨rfl, by decide, by decide⟩ ⟨_, rfl, rfl, h⟩
theorem S_Mo_areTwo {d : Nat} {kd : ZK} {m : ZM} {q : Int → ZM → Prop} {v0 v1 v2 : Int} (h : (zobj kd v0 8 ∧ ∃ q1, CtI d M_Mo_isQuestion [(2, v0), (0, 0), (0, v1)] kd m q1 ∧ ∀ x2 m3, q1 x2 m3 → ((x2 = 0 → q 0 m3) ∧ (¬ x2 = 0 → (zobj kd v0 8 ∧ ∃ q4, CtI d M_Mo_isQuestion [(2, v0), (0, 1), (0, v2)] kd m3 q4 ∧ ∀ x5 m6, q4 x5 m6 → ((x5 = 0 → q 0 m6) ∧ (¬ x5 = 0 → q 1 m6))))))) : CtI (d + 1) M_Mo_areTwo [(2, v0), (0, v1), (0, v2)] kd m q :=
  Ct.start k_Mo_areTwo (Nat.le_of_ble_eq_true rfl) ⟨2, Or.inr (Or.inr (Or.inl ⟨rfl, rfl⟩))⟩ (T_Mo_areTwo_0 h)
set_option maxRecDepth 20000 in
set_option maxHeartbeats 1000000 in
theorem T_Mo_areFour_0 {d : Nat} {kd : ZK} {m : ZM} {q : Int → ZM → Prop} {v0 v1 v2 v3 v4 : Int} (h : (zobj kd v0 8 ∧ ∃ q1, CtI d M_Mo_areTwo [(2, v0), (0, v1), (0, v2)] kd m q1 ∧ ∀ x2 m3, q1 x2 m3 → ((x2 = 0 → q 0 m3) ∧ (¬ x2 = 0 → (zobj kd v0 8 ∧ ∃ q4, CtI d M_Mo_isAnswer [(2, v0), (0, 0), (0, v3)] kd m3 q4 ∧ ∀ x5 m6, q4 x5 m6 → ((x5 = 0 → q 0 m6) ∧ (¬ x5 = 0 → (zobj kd v0 8 ∧ ∃ q7, CtI d M_Mo_isAnswer [(2, v0), (0, 1), (0, v4)] kd m6 q7 ∧ ∀ x8 m9, q7 x8 m9 → ((x8 = 0 → q 0 m9) ∧ (¬ x8 = 0 → q 1 m9)))))))))) : Ev (d + 1) M_Mo_areFour 0 0 0 [(2, v0), (0, v1), (0, v2), (0, v3), (0, v4)] [] kd m (zqI kd q) := by
  refine EvX.blk (pc' := 3) [(.aload_n 0, 0, 0), (.iload_n 1, 0, 0), (.iload_n 2, 0, 0)] (by decide +kernel) trivial ?_
  show Ev (d + 1) M_Mo_areFour 0 0 3 [(2, v0), (0, v1), (0, v2), (0, v3), (0, v4)] [(0, v2), (0, v1), (2, v0)] kd m (zqI kd q)
  obtain ⟨ov, h⟩ := h
  obtain ⟨q1, hq, h⟩ := h
  refine EvX.callV (c := 8) (mc := 0) (ms := 0) (as := [(0, v1), (0, v2)]) (st := []) (by decide +kernel) l_Mo_174 k_Mo_areTwo v_Mo_areTwo a_Mo_areTwo (by decide) (Nat.le_of_ble_eq_true rfl) rfl ov hq (fun r kd1 m3 hr => ?_)
  obtain ⟨x2, rfl, hk, hr⟩ := hr
  subst kd1
  have h := h x2 m3 hr
  show Ev (d + 1) M_Mo_areFour 0 0 6 [(2, v0), (0, v1), (0, v2), (0, v3), (0, v4)] [(0, x2)] kd m3 (zqI kd q)
  refine EvX.if_eq (off := 26) (tgt := 32) (by decide +kernel) (by decide) (fun hc => ?_) (fun hc => ?_)
  · have h := h.1 hc
    refine EvX.blk (pc' := 33) [(.iconst 0, 0, 0)] (by decide +kernel) trivial ?_
    show Ev (d + 1) M_Mo_areFour 0 0 33 [(2, v0), (0, v1), (0, v2), (0, v3), (0, v4)] [(0, 0)] kd m3 (zqI kd q)
    exact EvX.ret (r := (0, 0)) (by decide +kernel) ⟨rfl, by decide, by decide⟩ ⟨_, rfl, rfl, h⟩
  · have h := h.2 hc
    refine EvX.blk (pc' := 12) [(.aload_n 0, 0, 0), (.iconst 0, 0, 0), (.iload_n 3, 0, 0)] (by decide +kernel) trivial ?_
    show Ev (d + 1) M_Mo_areFour 0 0 12 [(2, v0), (0, v1), (0, v2), (0, v3), (0, v4)] [(0, v3), (0, 0), (2, v0)] kd m3 (zqI kd q)
    obtain ⟨ov, h⟩ := h
    obtain ⟨q4, hq, h⟩ := h
    refine EvX.callV (c := 8) (mc := 0) (ms := 0) (as := [(0, 0), (0, v3)]) (st := []) (by decide +kernel) l_Mo_177 k_Mo_isAnswer v_Mo_isAnswer a_Mo_isAnswer (by decide) (Nat.le_of_ble_eq_true rfl) rfl ov hq (fun r kd1 m6 hr => ?_)
    obtain ⟨x5, rfl, hk, hr⟩ := hr
    subst kd1
    have h := h x5 m6 hr
    show Ev (d + 1) M_Mo_areFour 0 0 15 [(2, v0), (0, v1), (0, v2), (0, v3), (0, v4)] [(0, x5)] kd m6 (zqI kd q)
    refine EvX.if_eq (off := 17) (tgt := 32) (by decide +kernel) (by decide) (fun hc => ?_) (fun hc => ?_)
    · have h := h.1 hc
      refine EvX.blk (pc' := 33) [(.iconst 0, 0, 0)] (by decide +kernel) trivial ?_
      show Ev (d + 1) M_Mo_areFour 0 0 33 [(2, v0), (0, v1), (0, v2), (0, v3), (0, v4)] [(0, 0)] kd m6 (zqI kd q)
      exact EvX.ret (r := (0, 0)) (by decide +kernel) ⟨rfl, by decide, by decide⟩ ⟨_, rfl, rfl, h⟩
    · have h := h.2 hc
      refine EvX.blk (pc' := 22) [(.aload_n 0, 0, 0), (.iconst 1, 0, 0), (.iload 4, 0, 0)] (by decide +kernel) trivial ?_
      show Ev (d + 1) M_Mo_areFour 0 0 22 [(2, v0), (0, v1), (0, v2), (0, v3), (0, v4)] [(0, v4), (0, 1), (2, v0)] kd m6 (zqI kd q)
      obtain ⟨ov, h⟩ := h
      obtain ⟨q7, hq, h⟩ := h
      refine EvX.callV (c := 8) (mc := 0) (ms := 0) (as := [(0, 1), (0, v4)]) (st := []) (by decide +kernel) l_Mo_177 k_Mo_isAnswer v_Mo_isAnswer a_Mo_isAnswer (by decide) (Nat.le_of_ble_eq_true rfl) rfl ov hq (fun r kd1 m9 hr => ?_)
      obtain ⟨x8, rfl, hk, hr⟩ := hr
      subst kd1
      have h := h x8 m9 hr
      show Ev (d + 1) M_Mo_areFour 0 0 25 [(2, v0), (0, v1), (0, v2), (0, v3), (0, v4)] [(0, x8)] kd m9 (zqI kd q)
      refine EvX.if_eq (off := 7) (tgt := 32) (by decide +kernel) (by decide) (fun hc => ?_) (fun hc => ?_)
      · have h := h.1 hc
        refine EvX.blk (pc' := 33) [(.iconst 0, 0, 0)] (by decide +kernel) trivial ?_
        show Ev (d + 1) M_Mo_areFour 0 0 33 [(2, v0), (0, v1), (0, v2), (0, v3), (0, v4)] [(0, 0)] kd m9 (zqI kd q)
        exact EvX.ret (r := (0, 0)) (by decide +kernel) ⟨rfl, by decide, by decide⟩ ⟨_, rfl, rfl, h⟩
      · have h := h.2 hc
        refine EvX.blk (pc' := 29) [(.iconst 1, 0, 0)] (by decide +kernel) trivial ?_
        show Ev (d + 1) M_Mo_areFour 0 0 29 [(2, v0), (0, v1), (0, v2), (0, v3), (0, v4)] [(0, 1)] kd m9 (zqI kd q)
        refine EvX.goto (off := 4) (tgt := 33) (by decide +kernel) (by decide) ?_
        exact EvX.ret (r := (0, 1)) (by decide +kernel) ⟨rfl, by decide, by decide⟩ ⟨_, rfl, rfl, h⟩
theorem S_Mo_areFour {d : Nat} {kd : ZK} {m : ZM} {q : Int → ZM → Prop} {v0 v1 v2 v3 v4 : Int} (h : (zobj kd v0 8 ∧ ∃ q1, CtI d M_Mo_areTwo [(2, v0), (0, v1), (0, v2)] kd m q1 ∧ ∀ x2 m3, q1 x2 m3 → ((x2 = 0 → q 0 m3) ∧ (¬ x2 = 0 → (zobj kd v0 8 ∧ ∃ q4, CtI d M_Mo_isAnswer [(2, v0), (0, 0), (0, v3)] kd m3 q4 ∧ ∀ x5 m6, q4 x5 m6 → ((x5 = 0 → q 0 m6) ∧ (¬ x5 = 0 → (zobj kd v0 8 ∧ ∃ q7, CtI d M_Mo_isAnswer [(2, v0), (0, 1), (0, v4)] kd m6 q7 ∧ ∀ x8 m9, q7 x8 m9 → ((x8 = 0 → q 0 m9) ∧ (¬ x8 = 0 → q 1 m9)))))))))) : CtI (d + 1) M_Mo_areFour [(2, v0), (0, v1), (0, v2), (0, v3), (0, v4)] kd m q :=
  Ct.start k_Mo_areFour (Nat.le_of_ble_eq_true rfl) ⟨2, Or.inr (Or.inr (Or.inl ⟨rfl, rfl⟩))⟩ (T_Mo_areFour_0 h)
set_option maxRecDepth 20000 in
set_option maxHeartbeats 1000000 in
theorem T_Mo_weightOf_0 {d : Nat} {kd : ZK} {m : ZM} {q : Int → ZM → Prop} {v0 v1 v2 : Int} (h : (zobj kd v0 8 ∧ (∃ q1, CtI d M_Mo_twoOf [(0, v1), (0, v2)] kd m q1 ∧ ∀ x2 m3, q1 x2 m3 → (zIn kd (m v0 0) 0 (iw (4 + x2)) ∧ q (m3 (m v0 0) (iw (4 + x2))) m3)))) : Ev (d + 1) M_Mo_weightOf 0 0 0 [(2, v0), (0, v1), (0, v2)] [] kd m (zqI kd q) := by
  obtain ⟨o1, h⟩ := h
  refine EvX.blk (pc' := 7) [(.aload_n 0, 0, 0), (.getfield 9, 8, 0), (.iconst 4, 0, 0), (.iload_n 1, 0, 0), (.iload_n 2, 0, 0)] (by decide +kernel) ⟨g_Mo_9, trivial⟩ ⟨o1, ?_⟩
  show Ev (d + 1) M_Mo_weightOf 0 0 7 [(2, v0), (0, v1), (0, v2)] [(0, v2), (0, v1), (0, 4), (2, m v0 0)] kd m (zqI kd q)
  obtain ⟨q1, hq, h⟩ := h
  refine EvX.callS (mc := 0) (ms := 0) (as := [(0, v1), (0, v2)]) (st := [(0, 4), (2, m v0 0)]) (by decide +kernel) l_Mo_60 k_Mo_twoOf s_Mo_twoOf a_Mo_twoOf (by decide) (Nat.le_of_ble_eq_true rfl) hq (fun r kd1 m3 hr => ?_)
  obtain ⟨x2, rfl, hk, hr⟩ := hr
  subst kd1
  have h := h x2 m3 hr
  show Ev (d + 1) M_Mo_weightOf 0 0 10 [(2, v0), (0, v1), (0, v2)] [(0, x2), (0, 4), (2, m v0 0)] kd m3 (zqI kd q)
  obtain ⟨o1, h⟩ := h
  refine EvX.blk (pc' := 12) [(.iadd, 0, 0), (.iaload, 0, 0)] (by decide +kernel) trivial ⟨o1, ?_⟩
  show Ev (d + 1) M_Mo_weightOf 0 0 12 [(2, v0), (0, v1), (0, v2)] [(0, m3 (m v0 0) (iw (4 + x2)))] kd m3 (zqI kd q)
  exact EvX.ret (r := (0, m3 (m v0 0) (iw (4 + x2)))) (by decide +kernel) rfl ⟨_, rfl, rfl, h⟩
theorem S_Mo_weightOf {d : Nat} {kd : ZK} {m : ZM} {q : Int → ZM → Prop} {v0 v1 v2 : Int} (h : (zobj kd v0 8 ∧ (∃ q1, CtI d M_Mo_twoOf [(0, v1), (0, v2)] kd m q1 ∧ ∀ x2 m3, q1 x2 m3 → (zIn kd (m v0 0) 0 (iw (4 + x2)) ∧ q (m3 (m v0 0) (iw (4 + x2))) m3)))) : CtI (d + 1) M_Mo_weightOf [(2, v0), (0, v1), (0, v2)] kd m q :=
  Ct.start k_Mo_weightOf (Nat.le_of_ble_eq_true rfl) ⟨1, Or.inr (Or.inl ⟨rfl, rfl⟩)⟩ (T_Mo_weightOf_0 h)
set_option maxRecDepth 20000 in
set_option maxHeartbeats 1000000 in
theorem T_Mo_isWin_0 {d : Nat} {kd : ZK} {m : ZM} {q : Int → ZM → Prop} {v0 v1 v2 v3 v4 : Int} (h : (zobj kd v0 8 ∧ (∃ q1, CtI d M_Mo_fourOf [(0, v1), (0, v2), (0, v3), (0, v4)] kd m q1 ∧ ∀ x2 m3, q1 x2 m3 → (zIn kd (m v0 0) 0 (iw (29 + x2)) ∧ (((m3 (m v0 0) (iw (29 + x2))) ≠ 1 → q 0 m3) ∧ (¬ (m3 (m v0 0) (iw (29 + x2))) ≠ 1 → q 1 m3)))))) : Ev (d + 1) M_Mo_isWin 0 0 0 [(2, v0), (0, v1), (0, v2), (0, v3), (0, v4)] [] kd m (zqI kd q) := by
  obtain ⟨o1, h⟩ := h
  refine EvX.blk (pc' := 11) [(.aload_n 0, 0, 0), (.getfield 9, 8, 0), (.bipush 29, 0, 0), (.iload_n 1, 0, 0), (.iload_n 2, 0, 0), (.iload_n 3, 0, 0), (.iload 4, 0, 0)] (by decide +kernel) ⟨g_Mo_9, trivial⟩ ⟨o1, ?_⟩
  show Ev (d + 1) M_Mo_isWin 0 0 11 [(2, v0), (0, v1), (0, v2), (0, v3), (0, v4)] [(0, v4), (0, v3), (0, v2), (0, v1), (0, 29), (2, m v0 0)] kd m (zqI kd q)
  obtain ⟨q1, hq, h⟩ := h
  refine EvX.callS (mc := 0) (ms := 0) (as := [(0, v1), (0, v2), (0, v3), (0, v4)]) (st := [(0, 29), (2, m v0 0)]) (by decide +kernel) l_Mo_122 k_Mo_fourOf s_Mo_fourOf a_Mo_fourOf (by decide) (Nat.le_of_ble_eq_true rfl) hq (fun r kd1 m3 hr => ?_)
  obtain ⟨x2, rfl, hk, hr⟩ := hr
  subst kd1
  have h := h x2 m3 hr
  show Ev (d + 1) M_Mo_isWin 0 0 14 [(2, v0), (0, v1), (0, v2), (0, v3), (0, v4)] [(0, x2), (0, 29), (2, m v0 0)] kd m3 (zqI kd q)
  obtain ⟨o1, h⟩ := h
  refine EvX.blk (pc' := 17) [(.iadd, 0, 0), (.iaload, 0, 0), (.iconst 1, 0, 0)] (by decide +kernel) trivial ⟨o1, ?_⟩
  show Ev (d + 1) M_Mo_isWin 0 0 17 [(2, v0), (0, v1), (0, v2), (0, v3), (0, v4)] [(0, 1), (0, m3 (m v0 0) (iw (29 + x2)))] kd m3 (zqI kd q)
  refine EvX.icmp_ne (off := 7) (tgt := 24) (by decide +kernel) (by decide) (fun hc => ?_) (fun hc => ?_)
  · have h := h.1 hc
    refine EvX.blk (pc' := 25) [(.iconst 0, 0, 0)] (by decide +kernel) trivial ?_
    show Ev (d + 1) M_Mo_isWin 0 0 25 [(2, v0), (0, v1), (0, v2), (0, v3), (0, v4)] [(0, 0)] kd m3 (zqI kd q)
    exact EvX.ret (r := (0, 0)) (by decide +kernel) ⟨rfl, by decide, by decide⟩ ⟨_, rfl, rfl, h⟩
  · have h := h.2 hc
    refine EvX.blk (pc' := 21) [(.iconst 1, 0, 0)] (by decide +kernel) trivial ?_
    show Ev (d + 1) M_Mo_isWin 0 0 21 [(2, v0), (0, v1), (0, v2), (0, v3), (0, v4)] [(0, 1)] kd m3 (zqI kd q)
    refine EvX.goto (off := 4) (tgt := 25) (by decide +kernel) (by decide) ?_
    exact EvX.ret (r := (0, 1)) (by decide +kernel) ⟨rfl, by decide, by decide⟩ ⟨_, rfl, rfl, h⟩
theorem S_Mo_isWin {d : Nat} {kd : ZK} {m : ZM} {q : Int → ZM → Prop} {v0 v1 v2 v3 v4 : Int} (h : (zobj kd v0 8 ∧ (∃ q1, CtI d M_Mo_fourOf [(0, v1), (0, v2), (0, v3), (0, v4)] kd m q1 ∧ ∀ x2 m3, q1 x2 m3 → (zIn kd (m v0 0) 0 (iw (29 + x2)) ∧ (((m3 (m v0 0) (iw (29 + x2))) ≠ 1 → q 0 m3) ∧ (¬ (m3 (m v0 0) (iw (29 + x2))) ≠ 1 → q 1 m3)))))) : CtI (d + 1) M_Mo_isWin [(2, v0), (0, v1), (0, v2), (0, v3), (0, v4)] kd m q :=
  Ct.start k_Mo_isWin (Nat.le_of_ble_eq_true rfl) ⟨2, Or.inr (Or.inr (Or.inl ⟨rfl, rfl⟩))⟩ (T_Mo_isWin_0 h)
set_option maxRecDepth 20000 in
set_option maxHeartbeats 1000000 in
theorem T_Mo_boxOf_0 {d : Nat} {kd : ZK} {m : ZM} {q : Int → ZM → Prop} {v0 v1 v2 v3 v4 : Int} (h : (zobj kd v0 8 ∧ (∃ q1, CtI d M_Mo_fourOf [(0, v1), (0, v2), (0, v3), (0, v4)] kd m q1 ∧ ∀ x2 m3, q1 x2 m3 → (zIn kd (m v0 0) 0 (iw (429 + x2)) ∧ q (m3 (m v0 0) (iw (429 + x2))) m3)))) : Ev (d + 1) M_Mo_boxOf 0 0 0 [(2, v0), (0, v1), (0, v2), (0, v3), (0, v4)] [] kd m (zqI kd q) := by
  obtain ⟨o1, h⟩ := h
  refine EvX.blk (pc' := 12) [(.aload_n 0, 0, 0), (.getfield 9, 8, 0), (.sipush 429, 0, 0), (.iload_n 1, 0, 0), (.iload_n 2, 0, 0), (.iload_n 3, 0, 0), (.iload 4, 0, 0)] (by decide +kernel) ⟨g_Mo_9, trivial⟩ ⟨o1, ?_⟩
  show Ev (d + 1) M_Mo_boxOf 0 0 12 [(2, v0), (0, v1), (0, v2), (0, v3), (0, v4)] [(0, v4), (0, v3), (0, v2), (0, v1), (0, 429), (2, m v0 0)] kd m (zqI kd q)
  obtain ⟨q1, hq, h⟩ := h
  refine EvX.callS (mc := 0) (ms := 0) (as := [(0, v1), (0, v2), (0, v3), (0, v4)]) (st := [(0, 429), (2, m v0 0)]) (by decide +kernel) l_Mo_122 k_Mo_fourOf s_Mo_fourOf a_Mo_fourOf (by decide) (Nat.le_of_ble_eq_true rfl) hq (fun r kd1 m3 hr => ?_)
  obtain ⟨x2, rfl, hk, hr⟩ := hr
  subst kd1
  have h := h x2 m3 hr
  show Ev (d + 1) M_Mo_boxOf 0 0 15 [(2, v0), (0, v1), (0, v2), (0, v3), (0, v4)] [(0, x2), (0, 429), (2, m v0 0)] kd m3 (zqI kd q)
  obtain ⟨o1, h⟩ := h
  refine EvX.blk (pc' := 17) [(.iadd, 0, 0), (.iaload, 0, 0)] (by decide +kernel) trivial ⟨o1, ?_⟩
  show Ev (d + 1) M_Mo_boxOf 0 0 17 [(2, v0), (0, v1), (0, v2), (0, v3), (0, v4)] [(0, m3 (m v0 0) (iw (429 + x2)))] kd m3 (zqI kd q)
  exact EvX.ret (r := (0, m3 (m v0 0) (iw (429 + x2)))) (by decide +kernel) rfl ⟨_, rfl, rfl, h⟩
theorem S_Mo_boxOf {d : Nat} {kd : ZK} {m : ZM} {q : Int → ZM → Prop} {v0 v1 v2 v3 v4 : Int} (h : (zobj kd v0 8 ∧ (∃ q1, CtI d M_Mo_fourOf [(0, v1), (0, v2), (0, v3), (0, v4)] kd m q1 ∧ ∀ x2 m3, q1 x2 m3 → (zIn kd (m v0 0) 0 (iw (429 + x2)) ∧ q (m3 (m v0 0) (iw (429 + x2))) m3)))) : CtI (d + 1) M_Mo_boxOf [(2, v0), (0, v1), (0, v2), (0, v3), (0, v4)] kd m q :=
  Ct.start k_Mo_boxOf (Nat.le_of_ble_eq_true rfl) ⟨1, Or.inr (Or.inl ⟨rfl, rfl⟩)⟩ (T_Mo_boxOf_0 h)
set_option maxRecDepth 20000 in
set_option maxHeartbeats 1000000 in
theorem T_Mo_seen_0 {d : Nat} {kd : ZK} {m : ZM} {q : Int → ZM → Prop} {v0 v1 v2 v3 v4 v5 v6 : Int} (h : (zobj kd v0 8 ∧ ((v1 ≠ 0 → (∃ q1, CtI d M_Mo_fourOf [(0, v4), (0, v3), (0, v6), (0, v5)] kd m q1 ∧ ∀ x2 m3, q1 x2 m3 → (zIn kd (m v0 0) 0 (iw (v2 + x2)) ∧ q (m3 (m v0 0) (iw (v2 + x2))) m3))) ∧ (¬ v1 ≠ 0 → (∃ q4, CtI d M_Mo_fourOf [(0, v3), (0, v4), (0, v5), (0, v6)] kd m q4 ∧ ∀ x5 m6, q4 x5 m6 → (zIn kd (m v0 0) 0 (iw (v2 + x5)) ∧ q (m6 (m v0 0) (iw (v2 + x5))) m6)))))) : Ev (d + 1) M_Mo_seen 0 0 0 [(2, v0), (0, v1), (0, v2), (0, v3), (0, v4), (0, v5), (0, v6)] [] kd m (zqI kd q) := by
  obtain ⟨o1, h⟩ := h
  refine EvX.blk (pc' := 6) [(.aload_n 0, 0, 0), (.getfield 9, 8, 0), (.iload_n 2, 0, 0), (.iload_n 1, 0, 0)] (by decide +kernel) ⟨g_Mo_9, trivial⟩ ⟨o1, ?_⟩
  show Ev (d + 1) M_Mo_seen 0 0 6 [(2, v0), (0, v1), (0, v2), (0, v3), (0, v4), (0, v5), (0, v6)] [(0, v1), (0, v2), (2, m v0 0)] kd m (zqI kd q)
  refine EvX.if_ne (off := 16) (tgt := 22) (by decide +kernel) (by decide) (fun hc => ?_) (fun hc => ?_)
  · have h := h.1 hc
    refine EvX.blk (pc' := 29) [(.iload 4, 0, 0), (.iload_n 3, 0, 0), (.iload 6, 0, 0), (.iload 5, 0, 0)] (by decide +kernel) trivial ?_
    show Ev (d + 1) M_Mo_seen 0 0 29 [(2, v0), (0, v1), (0, v2), (0, v3), (0, v4), (0, v5), (0, v6)] [(0, v5), (0, v6), (0, v3), (0, v4), (0, v2), (2, m v0 0)] kd m (zqI kd q)
    obtain ⟨q1, hq, h⟩ := h
    refine EvX.callS (mc := 0) (ms := 0) (as := [(0, v4), (0, v3), (0, v6), (0, v5)]) (st := [(0, v2), (2, m v0 0)]) (by decide +kernel) l_Mo_122 k_Mo_fourOf s_Mo_fourOf a_Mo_fourOf (by decide) (Nat.le_of_ble_eq_true rfl) hq (fun r kd1 m3 hr => ?_)
    obtain ⟨x2, rfl, hk, hr⟩ := hr
    subst kd1
    have h := h x2 m3 hr
    show Ev (d + 1) M_Mo_seen 0 0 32 [(2, v0), (0, v1), (0, v2), (0, v3), (0, v4), (0, v5), (0, v6)] [(0, x2), (0, v2), (2, m v0 0)] kd m3 (zqI kd q)
    obtain ⟨o1, h⟩ := h
    refine EvX.blk (pc' := 34) [(.iadd, 0, 0), (.iaload, 0, 0)] (by decide +kernel) trivial ⟨o1, ?_⟩
    show Ev (d + 1) M_Mo_seen 0 0 34 [(2, v0), (0, v1), (0, v2), (0, v3), (0, v4), (0, v5), (0, v6)] [(0, m3 (m v0 0) (iw (v2 + x2)))] kd m3 (zqI kd q)
    exact EvX.ret (r := (0, m3 (m v0 0) (iw (v2 + x2)))) (by decide +kernel) rfl ⟨_, rfl, rfl, h⟩
  · have h := h.2 hc
    refine EvX.blk (pc' := 16) [(.iload_n 3, 0, 0), (.iload 4, 0, 0), (.iload 5, 0, 0), (.iload 6, 0, 0)] (by decide +kernel) trivial ?_
    show Ev (d + 1) M_Mo_seen 0 0 16 [(2, v0), (0, v1), (0, v2), (0, v3), (0, v4), (0, v5), (0, v6)] [(0, v6), (0, v5), (0, v4), (0, v3), (0, v2), (2, m v0 0)] kd m (zqI kd q)
    obtain ⟨q4, hq, h⟩ := h
    refine EvX.callS (mc := 0) (ms := 0) (as := [(0, v3), (0, v4), (0, v5), (0, v6)]) (st := [(0, v2), (2, m v0 0)]) (by decide +kernel) l_Mo_122 k_Mo_fourOf s_Mo_fourOf a_Mo_fourOf (by decide) (Nat.le_of_ble_eq_true rfl) hq (fun r kd1 m6 hr => ?_)
    obtain ⟨x5, rfl, hk, hr⟩ := hr
    subst kd1
    have h := h x5 m6 hr
    show Ev (d + 1) M_Mo_seen 0 0 19 [(2, v0), (0, v1), (0, v2), (0, v3), (0, v4), (0, v5), (0, v6)] [(0, x5), (0, v2), (2, m v0 0)] kd m6 (zqI kd q)
    refine EvX.goto (off := 13) (tgt := 32) (by decide +kernel) (by decide) ?_
    obtain ⟨o1, h⟩ := h
    refine EvX.blk (pc' := 34) [(.iadd, 0, 0), (.iaload, 0, 0)] (by decide +kernel) trivial ⟨o1, ?_⟩
    show Ev (d + 1) M_Mo_seen 0 0 34 [(2, v0), (0, v1), (0, v2), (0, v3), (0, v4), (0, v5), (0, v6)] [(0, m6 (m v0 0) (iw (v2 + x5)))] kd m6 (zqI kd q)
    exact EvX.ret (r := (0, m6 (m v0 0) (iw (v2 + x5)))) (by decide +kernel) rfl ⟨_, rfl, rfl, h⟩
theorem S_Mo_seen {d : Nat} {kd : ZK} {m : ZM} {q : Int → ZM → Prop} {v0 v1 v2 v3 v4 v5 v6 : Int} (h : (zobj kd v0 8 ∧ ((v1 ≠ 0 → (∃ q1, CtI d M_Mo_fourOf [(0, v4), (0, v3), (0, v6), (0, v5)] kd m q1 ∧ ∀ x2 m3, q1 x2 m3 → (zIn kd (m v0 0) 0 (iw (v2 + x2)) ∧ q (m3 (m v0 0) (iw (v2 + x2))) m3))) ∧ (¬ v1 ≠ 0 → (∃ q4, CtI d M_Mo_fourOf [(0, v3), (0, v4), (0, v5), (0, v6)] kd m q4 ∧ ∀ x5 m6, q4 x5 m6 → (zIn kd (m v0 0) 0 (iw (v2 + x5)) ∧ q (m6 (m v0 0) (iw (v2 + x5))) m6)))))) : CtI (d + 1) M_Mo_seen [(2, v0), (0, v1), (0, v2), (0, v3), (0, v4), (0, v5), (0, v6)] kd m q :=
  Ct.start k_Mo_seen (Nat.le_of_ble_eq_true rfl) ⟨1, Or.inr (Or.inl ⟨rfl, rfl⟩)⟩ (T_Mo_seen_0 h)
set_option maxRecDepth 20000 in
set_option maxHeartbeats 1000000 in
theorem T_Mo_weightSeen_0 {d : Nat} {kd : ZK} {m : ZM} {q : Int → ZM → Prop} {v0 v1 v2 v3 : Int} (h : ((v1 ≠ 0 → (zobj kd v0 8 ∧ ∃ q1, CtI d M_Mo_weightOf [(2, v0), (0, v3), (0, v2)] kd m q1 ∧ ∀ x2 m3, q1 x2 m3 → q x2 m3)) ∧ (¬ v1 ≠ 0 → (zobj kd v0 8 ∧ ∃ q4, CtI d M_Mo_weightOf [(2, v0), (0, v2), (0, v3)] kd m q4 ∧ ∀ x5 m6, q4 x5 m6 → q x5 m6)))) : Ev (d + 1) M_Mo_weightSeen 0 0 0 [(2, v0), (0, v1), (0, v2), (0, v3)] [] kd m (zqI kd q) := by
  refine EvX.blk (pc' := 1) [(.iload_n 1, 0, 0)] (by decide +kernel) trivial ?_
  show Ev (d + 1) M_Mo_weightSeen 0 0 1 [(2, v0), (0, v1), (0, v2), (0, v3)] [(0, v1)] kd m (zqI kd q)
  refine EvX.if_ne (off := 12) (tgt := 13) (by decide +kernel) (by decide) (fun hc => ?_) (fun hc => ?_)
  · have h := h.1 hc
    refine EvX.blk (pc' := 16) [(.aload_n 0, 0, 0), (.iload_n 3, 0, 0), (.iload_n 2, 0, 0)] (by decide +kernel) trivial ?_
    show Ev (d + 1) M_Mo_weightSeen 0 0 16 [(2, v0), (0, v1), (0, v2), (0, v3)] [(0, v2), (0, v3), (2, v0)] kd m (zqI kd q)
    obtain ⟨ov, h⟩ := h
    obtain ⟨q1, hq, h⟩ := h
    refine EvX.callV (c := 8) (mc := 0) (ms := 0) (as := [(0, v3), (0, v2)]) (st := []) (by decide +kernel) l_Mo_180 k_Mo_weightOf v_Mo_weightOf a_Mo_weightOf (by decide) (Nat.le_of_ble_eq_true rfl) rfl ov hq (fun r kd1 m3 hr => ?_)
    obtain ⟨x2, rfl, hk, hr⟩ := hr
    subst kd1
    have h := h x2 m3 hr
    show Ev (d + 1) M_Mo_weightSeen 0 0 19 [(2, v0), (0, v1), (0, v2), (0, v3)] [(0, x2)] kd m3 (zqI kd q)
    exact EvX.ret (r := (0, x2)) (by decide +kernel) rfl ⟨_, rfl, rfl, h⟩
  · have h := h.2 hc
    refine EvX.blk (pc' := 7) [(.aload_n 0, 0, 0), (.iload_n 2, 0, 0), (.iload_n 3, 0, 0)] (by decide +kernel) trivial ?_
    show Ev (d + 1) M_Mo_weightSeen 0 0 7 [(2, v0), (0, v1), (0, v2), (0, v3)] [(0, v3), (0, v2), (2, v0)] kd m (zqI kd q)
    obtain ⟨ov, h⟩ := h
    obtain ⟨q4, hq, h⟩ := h
    refine EvX.callV (c := 8) (mc := 0) (ms := 0) (as := [(0, v2), (0, v3)]) (st := []) (by decide +kernel) l_Mo_180 k_Mo_weightOf v_Mo_weightOf a_Mo_weightOf (by decide) (Nat.le_of_ble_eq_true rfl) rfl ov hq (fun r kd1 m6 hr => ?_)
    obtain ⟨x5, rfl, hk, hr⟩ := hr
    subst kd1
    have h := h x5 m6 hr
    show Ev (d + 1) M_Mo_weightSeen 0 0 10 [(2, v0), (0, v1), (0, v2), (0, v3)] [(0, x5)] kd m6 (zqI kd q)
    refine EvX.goto (off := 9) (tgt := 19) (by decide +kernel) (by decide) ?_
    exact EvX.ret (r := (0, x5)) (by decide +kernel) rfl ⟨_, rfl, rfl, h⟩
theorem S_Mo_weightSeen {d : Nat} {kd : ZK} {m : ZM} {q : Int → ZM → Prop} {v0 v1 v2 v3 : Int} (h : ((v1 ≠ 0 → (zobj kd v0 8 ∧ ∃ q1, CtI d M_Mo_weightOf [(2, v0), (0, v3), (0, v2)] kd m q1 ∧ ∀ x2 m3, q1 x2 m3 → q x2 m3)) ∧ (¬ v1 ≠ 0 → (zobj kd v0 8 ∧ ∃ q4, CtI d M_Mo_weightOf [(2, v0), (0, v2), (0, v3)] kd m q4 ∧ ∀ x5 m6, q4 x5 m6 → q x5 m6)))) : CtI (d + 1) M_Mo_weightSeen [(2, v0), (0, v1), (0, v2), (0, v3)] kd m q :=
  Ct.start k_Mo_weightSeen (Nat.le_of_ble_eq_true rfl) ⟨1, Or.inr (Or.inl ⟨rfl, rfl⟩)⟩ (T_Mo_weightSeen_0 h)
set_option maxRecDepth 20000 in
set_option maxHeartbeats 1000000 in
theorem T_Mo_keepsPast_0 {d : Nat} {kd : ZK} {m : ZM} {q : ZM → Prop} {v0 : Int} (h : (zobj kd v0 8 ∧ (((m v0 6) ≠ 10 → (Ev (d + 1) M_Mo_keepsPast 0 0 48 [(2, v0), zJ] [] kd m (zqV kd q))) ∧ (¬ (m v0 6) ≠ 10 → (Ev (d + 1) M_Mo_keepsPast 0 0 11 [(2, v0), (0, 1)] [] kd m (zqV kd q)))))) : Ev (d + 1) M_Mo_keepsPast 0 0 0 [(2, v0), zJ] [] kd m (zqV kd q) := by
  obtain ⟨o1, h⟩ := h
  refine EvX.blk (pc' := 6) [(.aload_n 0, 0, 0), (.getfield 160, 8, 6), (.bipush 10, 0, 0)] (by decide +kernel) ⟨g_Mo_160, trivial⟩ ⟨o1, ?_⟩
  show Ev (d + 1) M_Mo_keepsPast 0 0 6 [(2, v0), zJ] [(0, 10), (0, m v0 6)] kd m (zqV kd q)
  refine EvX.icmp_ne (off := 42) (tgt := 48) (by decide +kernel) (by decide) (fun hc => ?_) (fun hc => ?_)
  · have h := h.1 hc
    exact h
  · have h := h.2 hc
    refine EvX.blk (pc' := 11) [(.iconst 1, 0, 0), (.istore_n 1, 0, 0)] (by decide +kernel) trivial ?_
    show Ev (d + 1) M_Mo_keepsPast 0 0 11 [(2, v0), (0, 1)] [] kd m (zqV kd q)
    exact h
theorem S_Mo_keepsPast {d : Nat} {kd : ZK} {m : ZM} {q : ZM → Prop} {v0 : Int} (h : (zobj kd v0 8 ∧ (((m v0 6) ≠ 10 → (Ev (d + 1) M_Mo_keepsPast 0 0 48 [(2, v0), zJ] [] kd m (zqV kd q))) ∧ (¬ (m v0 6) ≠ 10 → (Ev (d + 1) M_Mo_keepsPast 0 0 11 [(2, v0), (0, 1)] [] kd m (zqV kd q)))))) : CtV (d + 1) M_Mo_keepsPast [(2, v0)] kd m q :=
  Ct.start k_Mo_keepsPast (Nat.le_of_ble_eq_true rfl) ⟨0, Or.inl ⟨rfl, rfl⟩⟩ (T_Mo_keepsPast_0 h)
set_option maxRecDepth 20000 in
set_option maxHeartbeats 1000000 in
theorem T_Mo_keepsPast_11 {d : Nat} {kd : ZK} {m : ZM} {q : ZM → Prop} {v0 v1 : Int} (h : ((10 ≤ v1 → (zobj kd v0 8 ∧ zobj kd v0 8 ∧ (Ev (d + 1) M_Mo_keepsPast 0 0 48 [(2, v0), zJ] [] kd (zup m v0 6 (iw ((m v0 6) - 1))) (zqV kd q)))) ∧ (¬ 10 ≤ v1 → (zobj kd v0 8 ∧ zobj kd v0 8 ∧ (∃ q1, CtV d M_Mo_moves [(2, m v0 3), (0, v1), (2, m v0 3), (0, iw (v1 - 1))] kd m q1 ∧ ∀ m3, q1 m3 → (Ev (d + 1) M_Mo_keepsPast 0 0 11 [(2, v0), (0, iw (v1 + 1))] [] kd m3 (zqV kd q))))))) : Ev (d + 1) M_Mo_keepsPast 0 0 11 [(2, v0), (0, v1)] [] kd m (zqV kd q) := by
  refine EvX.blk (pc' := 14) [(.iload_n 1, 0, 0), (.bipush 10, 0, 0)] (by decide +kernel) trivial ?_
  show Ev (d + 1) M_Mo_keepsPast 0 0 14 [(2, v0), (0, v1)] [(0, 10), (0, v1)] kd m (zqV kd q)
  refine EvX.icmp_ge (off := 24) (tgt := 38) (by decide +kernel) (by decide) (fun hc => ?_) (fun hc => ?_)
  · have h := h.1 hc
    obtain ⟨o1, o2, h⟩ := h
    refine EvX.blk (pc' := 48) [(.aload_n 0, 0, 0), (.dup, 0, 0), (.getfield 160, 8, 6), (.iconst 1, 0, 0), (.isub, 0, 0), (.putfield 160, 8, 6)] (by decide +kernel) ⟨g_Mo_160, ⟨g_Mo_160, p_Mo_160⟩, trivial⟩ ⟨o1, rfl, o2, ?_⟩
    show Ev (d + 1) M_Mo_keepsPast 0 0 48 [(2, v0), (0, v1)] [] kd (zup m v0 6 (iw ((m v0 6) - 1))) (zqV kd q)
    exact EvX.weak (ls2 := [(2, v0), zJ]) (zwk_of ⟨Or.inr rfl, Or.inl rfl, trivial⟩) h
  · have h := h.2 hc
    obtain ⟨o1, o2, h⟩ := h
    refine EvX.blk (pc' := 29) [(.aload_n 0, 0, 0), (.getfield 19, 8, 3), (.iload_n 1, 0, 0), (.aload_n 0, 0, 0), (.getfield 19, 8, 3), (.iload_n 1, 0, 0), (.iconst 1, 0, 0), (.isub, 0, 0)] (by decide +kernel) ⟨g_Mo_19, g_Mo_19, trivial⟩ ⟨o1, o2, ?_⟩
    show Ev (d + 1) M_Mo_keepsPast 0 0 29 [(2, v0), (0, v1)] [(0, iw (v1 - 1)), (2, m v0 3), (0, v1), (2, m v0 3)] kd m (zqV kd q)
    obtain ⟨q1, hq, h⟩ := h
    refine EvX.callS (mc := 0) (ms := 0) (as := [(2, m v0 3), (0, v1), (2, m v0 3), (0, iw (v1 - 1))]) (st := []) (by decide +kernel) l_Mo_156 k_Mo_moves s_Mo_moves a_Mo_moves (by decide) (Nat.le_of_ble_eq_true rfl) hq (fun r kd1 m3 hr => ?_)
    obtain ⟨rfl, hk, hr⟩ := hr
    subst kd1
    have h := h m3 hr
    show Ev (d + 1) M_Mo_keepsPast 0 0 32 [(2, v0), (0, v1)] [] kd m3 (zqV kd q)
    refine EvX.blk (pc' := 35) [(.iinc 1 1, 0, 0)] (by decide +kernel) trivial ?_
    show Ev (d + 1) M_Mo_keepsPast 0 0 35 [(2, v0), (0, iw (v1 + 1))] [] kd m3 (zqV kd q)
    refine EvX.goto (off := (-24)) (tgt := 11) (by decide +kernel) (by decide) ?_
    exact h
set_option maxRecDepth 20000 in
set_option maxHeartbeats 1000000 in
theorem T_Mo_keepsPast_48 {d : Nat} {kd : ZK} {m : ZM} {q : ZM → Prop} {v0 : Int} (h : (zobj kd v0 8 ∧ zobj kd v0 8 ∧ zobj kd v0 8 ∧ (∃ q1, CtV d M_Mo_moves [(2, m v0 0), (0, 0), (2, m v0 3), (0, m v0 6)] kd m q1 ∧ ∀ m3, q1 m3 → (zobj kd v0 8 ∧ zobj kd v0 8 ∧ q (zup m3 v0 6 (iw ((m3 v0 6) + 1))))))) : Ev (d + 1) M_Mo_keepsPast 0 0 48 [(2, v0), zJ] [] kd m (zqV kd q) := by
  obtain ⟨o1, o2, o3, h⟩ := h
  refine EvX.blk (pc' := 61) [(.aload_n 0, 0, 0), (.getfield 9, 8, 0), (.iconst 0, 0, 0), (.aload_n 0, 0, 0), (.getfield 19, 8, 3), (.aload_n 0, 0, 0), (.getfield 160, 8, 6)] (by decide +kernel) ⟨g_Mo_9, g_Mo_19, g_Mo_160, trivial⟩ ⟨o1, o2, o3, ?_⟩
  show Ev (d + 1) M_Mo_keepsPast 0 0 61 [(2, v0), zJ] [(0, m v0 6), (2, m v0 3), (0, 0), (2, m v0 0)] kd m (zqV kd q)
  obtain ⟨q1, hq, h⟩ := h
  refine EvX.callS (mc := 0) (ms := 0) (as := [(2, m v0 0), (0, 0), (2, m v0 3), (0, m v0 6)]) (st := []) (by decide +kernel) l_Mo_156 k_Mo_moves s_Mo_moves a_Mo_moves (by decide) (Nat.le_of_ble_eq_true rfl) hq (fun r kd1 m3 hr => ?_)
  obtain ⟨rfl, hk, hr⟩ := hr
  subst kd1
  have h := h m3 hr
  show Ev (d + 1) M_Mo_keepsPast 0 0 64 [(2, v0), zJ] [] kd m3 (zqV kd q)
  obtain ⟨o1, o2, h⟩ := h
  refine EvX.blk (pc' := 74) [(.aload_n 0, 0, 0), (.dup, 0, 0), (.getfield 160, 8, 6), (.iconst 1, 0, 0), (.iadd, 0, 0), (.putfield 160, 8, 6)] (by decide +kernel) ⟨g_Mo_160, ⟨g_Mo_160, p_Mo_160⟩, trivial⟩ ⟨o1, rfl, o2, ?_⟩
  show Ev (d + 1) M_Mo_keepsPast 0 0 74 [(2, v0), zJ] [] kd (zup m3 v0 6 (iw ((m3 v0 6) + 1))) (zqV kd q)
  exact EvX.ret (r := zJ) (by decide +kernel) rfl ⟨rfl, rfl, h⟩
set_option maxRecDepth 20000 in
set_option maxHeartbeats 1000000 in
theorem T_Mo_undo_0 {d : Nat} {kd : ZK} {m : ZM} {q : Int → ZM → Prop} {v0 : Int} (h : (zobj kd v0 8 ∧ (((m v0 6) ≠ 0 → (zobj kd v0 8 ∧ zobj kd v0 8 ∧ zobj kd v0 8 ∧ zobj kd v0 8 ∧ zobj kd v0 8 ∧ (∃ q1, CtV d M_Mo_moves [(2, (zup m v0 6 (iw ((m v0 6) - 1))) v0 3), (0, (zup m v0 6 (iw ((m v0 6) - 1))) v0 6), (2, (zup m v0 6 (iw ((m v0 6) - 1))) v0 0), (0, 0)] kd (zup m v0 6 (iw ((m v0 6) - 1))) q1 ∧ ∀ m3, q1 m3 → (zobj kd v0 8 ∧ q (m3 v0 6) m3)))) ∧ (¬ (m v0 6) ≠ 0 → q (-1) m)))) : Ev (d + 1) M_Mo_undo 0 0 0 [(2, v0)] [] kd m (zqI kd q) := by
  obtain ⟨o1, h⟩ := h
  refine EvX.blk (pc' := 4) [(.aload_n 0, 0, 0), (.getfield 160, 8, 6)] (by decide +kernel) ⟨g_Mo_160, trivial⟩ ⟨o1, ?_⟩
  show Ev (d + 1) M_Mo_undo 0 0 4 [(2, v0)] [(0, m v0 6)] kd m (zqI kd q)
  refine EvX.if_ne (off := 5) (tgt := 9) (by decide +kernel) (by decide) (fun hc => ?_) (fun hc => ?_)
  · have h := h.1 hc
    obtain ⟨o1, o2, o3, o4, o5, h⟩ := h
    refine EvX.blk (pc' := 32) [(.aload_n 0, 0, 0), (.dup, 0, 0), (.getfield 160, 8, 6), (.iconst 1, 0, 0), (.isub, 0, 0), (.putfield 160, 8, 6), (.aload_n 0, 0, 0), (.getfield 19, 8, 3), (.aload_n 0, 0, 0), (.getfield 160, 8, 6), (.aload_n 0, 0, 0), (.getfield 9, 8, 0), (.iconst 0, 0, 0)] (by decide +kernel) ⟨g_Mo_160, ⟨g_Mo_160, p_Mo_160⟩, g_Mo_19, g_Mo_160, g_Mo_9, trivial⟩ ⟨o1, rfl, o2, o3, o4, o5, ?_⟩
    show Ev (d + 1) M_Mo_undo 0 0 32 [(2, v0)] [(0, 0), (2, (zup m v0 6 (iw ((m v0 6) - 1))) v0 0), (0, (zup m v0 6 (iw ((m v0 6) - 1))) v0 6), (2, (zup m v0 6 (iw ((m v0 6) - 1))) v0 3)] kd (zup m v0 6 (iw ((m v0 6) - 1))) (zqI kd q)
    obtain ⟨q1, hq, h⟩ := h
    refine EvX.callS (mc := 0) (ms := 0) (as := [(2, (zup m v0 6 (iw ((m v0 6) - 1))) v0 3), (0, (zup m v0 6 (iw ((m v0 6) - 1))) v0 6), (2, (zup m v0 6 (iw ((m v0 6) - 1))) v0 0), (0, 0)]) (st := []) (by decide +kernel) l_Mo_156 k_Mo_moves s_Mo_moves a_Mo_moves (by decide) (Nat.le_of_ble_eq_true rfl) hq (fun r kd1 m3 hr => ?_)
    obtain ⟨rfl, hk, hr⟩ := hr
    subst kd1
    have h := h m3 hr
    show Ev (d + 1) M_Mo_undo 0 0 35 [(2, v0)] [] kd m3 (zqI kd q)
    obtain ⟨o1, h⟩ := h
    refine EvX.blk (pc' := 39) [(.aload_n 0, 0, 0), (.getfield 160, 8, 6)] (by decide +kernel) ⟨g_Mo_160, trivial⟩ ⟨o1, ?_⟩
    show Ev (d + 1) M_Mo_undo 0 0 39 [(2, v0)] [(0, m3 v0 6)] kd m3 (zqI kd q)
    exact EvX.ret (r := (0, m3 v0 6)) (by decide +kernel) rfl ⟨_, rfl, rfl, h⟩
  · have h := h.2 hc
    refine EvX.blk (pc' := 8) [(.iconst (-1), 0, 0)] (by decide +kernel) trivial ?_
    show Ev (d + 1) M_Mo_undo 0 0 8 [(2, v0)] [(0, (-1))] kd m (zqI kd q)
    exact EvX.ret (r := (0, (-1))) (by decide +kernel) rfl ⟨_, rfl, rfl, h⟩
theorem S_Mo_undo {d : Nat} {kd : ZK} {m : ZM} {q : Int → ZM → Prop} {v0 : Int} (h : (zobj kd v0 8 ∧ (((m v0 6) ≠ 0 → (zobj kd v0 8 ∧ zobj kd v0 8 ∧ zobj kd v0 8 ∧ zobj kd v0 8 ∧ zobj kd v0 8 ∧ (∃ q1, CtV d M_Mo_moves [(2, (zup m v0 6 (iw ((m v0 6) - 1))) v0 3), (0, (zup m v0 6 (iw ((m v0 6) - 1))) v0 6), (2, (zup m v0 6 (iw ((m v0 6) - 1))) v0 0), (0, 0)] kd (zup m v0 6 (iw ((m v0 6) - 1))) q1 ∧ ∀ m3, q1 m3 → (zobj kd v0 8 ∧ q (m3 v0 6) m3)))) ∧ (¬ (m v0 6) ≠ 0 → q (-1) m)))) : CtI (d + 1) M_Mo_undo [(2, v0)] kd m q :=
  Ct.start k_Mo_undo (Nat.le_of_ble_eq_true rfl) ⟨1, Or.inr (Or.inl ⟨rfl, rfl⟩)⟩ (T_Mo_undo_0 h)
set_option maxRecDepth 20000 in
set_option maxHeartbeats 1000000 in
theorem T_Mo_keep_0 {d : Nat} {kd : ZK} {m : ZM} {q : Int → ZM → Prop} {v0 v1 : Int} (h : (∃ q1, CtI d M_Mo_in [(1, v1), (1, 0), (1, 1)] kd m q1 ∧ ∀ x2 m3, q1 x2 m3 → ((x2 ≠ 0 → (zobj kd v0 8 ∧ zobj kd v0 8 ∧ (∃ q4, CtV d M_Mo_moves [(2, m3 v0 0), (0, 0), (2, m3 v0 4), (0, v1)] kd m3 q4 ∧ ∀ m6, q4 m6 → (zobj kd v0 8 ∧ zIn kd (m6 v0 5) 1 v1 ∧ zobj kd v0 8 ∧ zIn kd ((zup m6 (m6 v0 5) v1 1) v0 0) 0 0 ∧ q ((zup m6 (m6 v0 5) v1 1) ((zup m6 (m6 v0 5) v1 1) v0 0) 0) (zup m6 (m6 v0 5) v1 1))))) ∧ (¬ x2 ≠ 0 → q (-1) m3)))) : Ev (d + 1) M_Mo_keep 0 0 0 [(2, v0), (0, v1)] [] kd m (zqI kd q) := by
  refine EvX.blk (pc' := 4) [(.iload_n 1, 0, 0), (.i2l, 0, 0), (.lconst 0, 0, 0), (.lconst 1, 0, 0)] (by decide +kernel) trivial ?_
  show Ev (d + 1) M_Mo_keep 0 0 4 [(2, v0), (0, v1)] [(1, 1), (1, 0), (1, v1)] kd m (zqI kd q)
  obtain ⟨q1, hq, h⟩ := h
  refine EvX.callS (mc := 0) (ms := 0) (as := [(1, v1), (1, 0), (1, 1)]) (st := []) (by decide +kernel) l_Mo_93 k_Mo_in s_Mo_in a_Mo_in (by decide) (Nat.le_of_ble_eq_true rfl) hq (fun r kd1 m3 hr => ?_)
  obtain ⟨x2, rfl, hk, hr⟩ := hr
  subst kd1
  have h := h x2 m3 hr
  show Ev (d + 1) M_Mo_keep 0 0 7 [(2, v0), (0, v1)] [(0, x2)] kd m3 (zqI kd q)
  refine EvX.if_ne (off := 5) (tgt := 12) (by decide +kernel) (by decide) (fun hc => ?_) (fun hc => ?_)
  · have h := h.1 hc
    obtain ⟨o1, o2, h⟩ := h
    refine EvX.blk (pc' := 22) [(.aload_n 0, 0, 0), (.getfield 9, 8, 0), (.iconst 0, 0, 0), (.aload_n 0, 0, 0), (.getfield 22, 8, 4), (.iload_n 1, 0, 0)] (by decide +kernel) ⟨g_Mo_9, g_Mo_22, trivial⟩ ⟨o1, o2, ?_⟩
    show Ev (d + 1) M_Mo_keep 0 0 22 [(2, v0), (0, v1)] [(0, v1), (2, m3 v0 4), (0, 0), (2, m3 v0 0)] kd m3 (zqI kd q)
    obtain ⟨q4, hq, h⟩ := h
    refine EvX.callS (mc := 0) (ms := 0) (as := [(2, m3 v0 0), (0, 0), (2, m3 v0 4), (0, v1)]) (st := []) (by decide +kernel) l_Mo_156 k_Mo_moves s_Mo_moves a_Mo_moves (by decide) (Nat.le_of_ble_eq_true rfl) hq (fun r kd1 m6 hr => ?_)
    obtain ⟨rfl, hk, hr⟩ := hr
    subst kd1
    have h := h m6 hr
    show Ev (d + 1) M_Mo_keep 0 0 25 [(2, v0), (0, v1)] [] kd m6 (zqI kd q)
    obtain ⟨o1, o2, o3, o4, h⟩ := h
    refine EvX.blk (pc' := 38) [(.aload_n 0, 0, 0), (.getfield 25, 8, 5), (.iload_n 1, 0, 0), (.iconst 1, 0, 0), (.bastore, 1, 0), (.aload_n 0, 0, 0), (.getfield 9, 8, 0), (.iconst 0, 0, 0), (.iaload, 0, 0)] (by decide +kernel) ⟨g_Mo_25, g_Mo_9, trivial⟩ ⟨o1, Or.inl ⟨rfl, by decide, by decide⟩, o2, o3, o4, ?_⟩
    show Ev (d + 1) M_Mo_keep 0 0 38 [(2, v0), (0, v1)] [(0, (zup m6 (m6 v0 5) v1 1) ((zup m6 (m6 v0 5) v1 1) v0 0) 0)] kd (zup m6 (m6 v0 5) v1 1) (zqI kd q)
    exact EvX.ret (r := (0, (zup m6 (m6 v0 5) v1 1) ((zup m6 (m6 v0 5) v1 1) v0 0) 0)) (by decide +kernel) rfl ⟨_, rfl, rfl, h⟩
  · have h := h.2 hc
    refine EvX.blk (pc' := 11) [(.iconst (-1), 0, 0)] (by decide +kernel) trivial ?_
    show Ev (d + 1) M_Mo_keep 0 0 11 [(2, v0), (0, v1)] [(0, (-1))] kd m3 (zqI kd q)
    exact EvX.ret (r := (0, (-1))) (by decide +kernel) rfl ⟨_, rfl, rfl, h⟩
theorem S_Mo_keep {d : Nat} {kd : ZK} {m : ZM} {q : Int → ZM → Prop} {v0 v1 : Int} (h : (∃ q1, CtI d M_Mo_in [(1, v1), (1, 0), (1, 1)] kd m q1 ∧ ∀ x2 m3, q1 x2 m3 → ((x2 ≠ 0 → (zobj kd v0 8 ∧ zobj kd v0 8 ∧ (∃ q4, CtV d M_Mo_moves [(2, m3 v0 0), (0, 0), (2, m3 v0 4), (0, v1)] kd m3 q4 ∧ ∀ m6, q4 m6 → (zobj kd v0 8 ∧ zIn kd (m6 v0 5) 1 v1 ∧ zobj kd v0 8 ∧ zIn kd ((zup m6 (m6 v0 5) v1 1) v0 0) 0 0 ∧ q ((zup m6 (m6 v0 5) v1 1) ((zup m6 (m6 v0 5) v1 1) v0 0) 0) (zup m6 (m6 v0 5) v1 1))))) ∧ (¬ x2 ≠ 0 → q (-1) m3)))) : CtI (d + 1) M_Mo_keep [(2, v0), (0, v1)] kd m q :=
  Ct.start k_Mo_keep (Nat.le_of_ble_eq_true rfl) ⟨1, Or.inr (Or.inl ⟨rfl, rfl⟩)⟩ (T_Mo_keep_0 h)
set_option maxRecDepth 20000 in
set_option maxHeartbeats 1000000 in
theorem T_Mo_back_0 {d : Nat} {kd : ZK} {m : ZM} {q : Int → ZM → Prop} {v0 v1 : Int} (h : (∃ q1, CtI d M_Mo_in [(1, v1), (1, 0), (1, 1)] kd m q1 ∧ ∀ x2 m3, q1 x2 m3 → ((x2 ≠ 0 → (zobj kd v0 8 ∧ zIn kd (m3 v0 5) 1 v1 ∧ (((m3 (m3 v0 5) v1) ≠ 0 → (zobj kd v0 8 ∧ zobj kd v0 8 ∧ (∃ q4, CtV d M_Mo_moves [(2, m3 v0 4), (0, v1), (2, m3 v0 0), (0, 0)] kd m3 q4 ∧ ∀ m6, q4 m6 → (zobj kd v0 8 ∧ zobj kd v0 8 ∧ zIn kd ((zup m6 v0 6 0) v0 0) 0 0 ∧ q ((zup m6 v0 6 0) ((zup m6 v0 6 0) v0 0) 0) (zup m6 v0 6 0))))) ∧ (¬ (m3 (m3 v0 5) v1) ≠ 0 → q (-2) m3)))) ∧ (¬ x2 ≠ 0 → q (-1) m3)))) : Ev (d + 1) M_Mo_back 0 0 0 [(2, v0), (0, v1)] [] kd m (zqI kd q) := by
  refine EvX.blk (pc' := 4) [(.iload_n 1, 0, 0), (.i2l, 0, 0), (.lconst 0, 0, 0), (.lconst 1, 0, 0)] (by decide +kernel) trivial ?_
  show Ev (d + 1) M_Mo_back 0 0 4 [(2, v0), (0, v1)] [(1, 1), (1, 0), (1, v1)] kd m (zqI kd q)
  obtain ⟨q1, hq, h⟩ := h
  refine EvX.callS (mc := 0) (ms := 0) (as := [(1, v1), (1, 0), (1, 1)]) (st := []) (by decide +kernel) l_Mo_93 k_Mo_in s_Mo_in a_Mo_in (by decide) (Nat.le_of_ble_eq_true rfl) hq (fun r kd1 m3 hr => ?_)
  obtain ⟨x2, rfl, hk, hr⟩ := hr
  subst kd1
  have h := h x2 m3 hr
  show Ev (d + 1) M_Mo_back 0 0 7 [(2, v0), (0, v1)] [(0, x2)] kd m3 (zqI kd q)
  refine EvX.if_ne (off := 5) (tgt := 12) (by decide +kernel) (by decide) (fun hc => ?_) (fun hc => ?_)
  · have h := h.1 hc
    obtain ⟨o1, o2, h⟩ := h
    refine EvX.blk (pc' := 18) [(.aload_n 0, 0, 0), (.getfield 25, 8, 5), (.iload_n 1, 0, 0), (.baload, 1, 0)] (by decide +kernel) ⟨g_Mo_25, trivial⟩ ⟨o1, Or.inl rfl, o2, ?_⟩
    show Ev (d + 1) M_Mo_back 0 0 18 [(2, v0), (0, v1)] [(0, m3 (m3 v0 5) v1)] kd m3 (zqI kd q)
    refine EvX.if_ne (off := 6) (tgt := 24) (by decide +kernel) (by decide) (fun hc => ?_) (fun hc => ?_)
    · have h := h.1 hc
      obtain ⟨o1, o2, h⟩ := h
      refine EvX.blk (pc' := 34) [(.aload_n 0, 0, 0), (.getfield 22, 8, 4), (.iload_n 1, 0, 0), (.aload_n 0, 0, 0), (.getfield 9, 8, 0), (.iconst 0, 0, 0)] (by decide +kernel) ⟨g_Mo_22, g_Mo_9, trivial⟩ ⟨o1, o2, ?_⟩
      show Ev (d + 1) M_Mo_back 0 0 34 [(2, v0), (0, v1)] [(0, 0), (2, m3 v0 0), (0, v1), (2, m3 v0 4)] kd m3 (zqI kd q)
      obtain ⟨q4, hq, h⟩ := h
      refine EvX.callS (mc := 0) (ms := 0) (as := [(2, m3 v0 4), (0, v1), (2, m3 v0 0), (0, 0)]) (st := []) (by decide +kernel) l_Mo_156 k_Mo_moves s_Mo_moves a_Mo_moves (by decide) (Nat.le_of_ble_eq_true rfl) hq (fun r kd1 m6 hr => ?_)
      obtain ⟨rfl, hk, hr⟩ := hr
      subst kd1
      have h := h m6 hr
      show Ev (d + 1) M_Mo_back 0 0 37 [(2, v0), (0, v1)] [] kd m6 (zqI kd q)
      obtain ⟨o1, o2, o3, h⟩ := h
      refine EvX.blk (pc' := 48) [(.aload_n 0, 0, 0), (.iconst 0, 0, 0), (.putfield 160, 8, 6), (.aload_n 0, 0, 0), (.getfield 9, 8, 0), (.iconst 0, 0, 0), (.iaload, 0, 0)] (by decide +kernel) ⟨⟨g_Mo_160, p_Mo_160⟩, g_Mo_9, trivial⟩ ⟨rfl, o1, o2, o3, ?_⟩
      show Ev (d + 1) M_Mo_back 0 0 48 [(2, v0), (0, v1)] [(0, (zup m6 v0 6 0) ((zup m6 v0 6 0) v0 0) 0)] kd (zup m6 v0 6 0) (zqI kd q)
      exact EvX.ret (r := (0, (zup m6 v0 6 0) ((zup m6 v0 6 0) v0 0) 0)) (by decide +kernel) rfl ⟨_, rfl, rfl, h⟩
    · have h := h.2 hc
      refine EvX.blk (pc' := 23) [(.bipush (-2), 0, 0)] (by decide +kernel) trivial ?_
      show Ev (d + 1) M_Mo_back 0 0 23 [(2, v0), (0, v1)] [(0, (-2))] kd m3 (zqI kd q)
      exact EvX.ret (r := (0, (-2))) (by decide +kernel) rfl ⟨_, rfl, rfl, h⟩
  · have h := h.2 hc
    refine EvX.blk (pc' := 11) [(.iconst (-1), 0, 0)] (by decide +kernel) trivial ?_
    show Ev (d + 1) M_Mo_back 0 0 11 [(2, v0), (0, v1)] [(0, (-1))] kd m3 (zqI kd q)
    exact EvX.ret (r := (0, (-1))) (by decide +kernel) rfl ⟨_, rfl, rfl, h⟩
theorem S_Mo_back {d : Nat} {kd : ZK} {m : ZM} {q : Int → ZM → Prop} {v0 v1 : Int} (h : (∃ q1, CtI d M_Mo_in [(1, v1), (1, 0), (1, 1)] kd m q1 ∧ ∀ x2 m3, q1 x2 m3 → ((x2 ≠ 0 → (zobj kd v0 8 ∧ zIn kd (m3 v0 5) 1 v1 ∧ (((m3 (m3 v0 5) v1) ≠ 0 → (zobj kd v0 8 ∧ zobj kd v0 8 ∧ (∃ q4, CtV d M_Mo_moves [(2, m3 v0 4), (0, v1), (2, m3 v0 0), (0, 0)] kd m3 q4 ∧ ∀ m6, q4 m6 → (zobj kd v0 8 ∧ zobj kd v0 8 ∧ zIn kd ((zup m6 v0 6 0) v0 0) 0 0 ∧ q ((zup m6 v0 6 0) ((zup m6 v0 6 0) v0 0) 0) (zup m6 v0 6 0))))) ∧ (¬ (m3 (m3 v0 5) v1) ≠ 0 → q (-2) m3)))) ∧ (¬ x2 ≠ 0 → q (-1) m3)))) : CtI (d + 1) M_Mo_back [(2, v0), (0, v1)] kd m q :=
  Ct.start k_Mo_back (Nat.le_of_ble_eq_true rfl) ⟨1, Or.inr (Or.inl ⟨rfl, rfl⟩)⟩ (T_Mo_back_0 h)
set_option maxRecDepth 20000 in
set_option maxHeartbeats 1000000 in
theorem T_Mo_becomes_0 {d : Nat} {kd : ZK} {m : ZM} {q : Int → ZM → Prop} {v0 v1 v2 : Int} (h : (zobj kd v0 8 ∧ zIn kd (m v0 0) 0 v1 ∧ (((m (m v0 0) v1) ≠ v2 → (zobj kd v0 8 ∧ ∃ q1, CtV d M_Mo_keepsPast [(2, v0)] kd m q1 ∧ ∀ m3, q1 m3 → (zobj kd v0 8 ∧ zIn kd (m3 v0 0) 0 v1 ∧ q (m (m v0 0) v1) (zup m3 (m3 v0 0) v1 v2)))) ∧ (¬ (m (m v0 0) v1) ≠ v2 → q (-2) m)))) : Ev (d + 1) M_Mo_becomes 0 0 0 [(2, v0), (0, v1), (0, v2), zJ] [] kd m (zqI kd q) := by
  obtain ⟨o1, o2, h⟩ := h
  refine EvX.blk (pc' := 9) [(.aload_n 0, 0, 0), (.getfield 9, 8, 0), (.iload_n 1, 0, 0), (.iaload, 0, 0), (.istore_n 3, 0, 0), (.iload_n 3, 0, 0), (.iload_n 2, 0, 0)] (by decide +kernel) ⟨g_Mo_9, trivial⟩ ⟨o1, o2, ?_⟩
  show Ev (d + 1) M_Mo_becomes 0 0 9 [(2, v0), (0, v1), (0, v2), (0, m (m v0 0) v1)] [(0, v2), (0, m (m v0 0) v1)] kd m (zqI kd q)
  refine EvX.icmp_ne (off := 6) (tgt := 15) (by decide +kernel) (by decide) (fun hc => ?_) (fun hc => ?_)
  · have h := h.1 hc
    refine EvX.blk (pc' := 16) [(.aload_n 0, 0, 0)] (by decide +kernel) trivial ?_
    show Ev (d + 1) M_Mo_becomes 0 0 16 [(2, v0), (0, v1), (0, v2), (0, m (m v0 0) v1)] [(2, v0)] kd m (zqI kd q)
    obtain ⟨ov, h⟩ := h
    obtain ⟨q1, hq, h⟩ := h
    refine EvX.callV (c := 8) (mc := 0) (ms := 0) (as := []) (st := []) (by decide +kernel) l_Mo_183 k_Mo_keepsPast v_Mo_keepsPast a_Mo_keepsPast (by decide) (Nat.le_of_ble_eq_true rfl) rfl ov hq (fun r kd1 m3 hr => ?_)
    obtain ⟨rfl, hk, hr⟩ := hr
    subst kd1
    have h := h m3 hr
    show Ev (d + 1) M_Mo_becomes 0 0 19 [(2, v0), (0, v1), (0, v2), (0, m (m v0 0) v1)] [] kd m3 (zqI kd q)
    obtain ⟨o1, o2, h⟩ := h
    refine EvX.blk (pc' := 27) [(.aload_n 0, 0, 0), (.getfield 9, 8, 0), (.iload_n 1, 0, 0), (.iload_n 2, 0, 0), (.iastore, 0, 0), (.iload_n 3, 0, 0)] (by decide +kernel) ⟨g_Mo_9, trivial⟩ ⟨o1, o2, ?_⟩
    show Ev (d + 1) M_Mo_becomes 0 0 27 [(2, v0), (0, v1), (0, v2), (0, m (m v0 0) v1)] [(0, m (m v0 0) v1)] kd (zup m3 (m3 v0 0) v1 v2) (zqI kd q)
    exact EvX.ret (r := (0, m (m v0 0) v1)) (by decide +kernel) rfl ⟨_, rfl, rfl, h⟩
  · have h := h.2 hc
    refine EvX.blk (pc' := 14) [(.bipush (-2), 0, 0)] (by decide +kernel) trivial ?_
    show Ev (d + 1) M_Mo_becomes 0 0 14 [(2, v0), (0, v1), (0, v2), (0, m (m v0 0) v1)] [(0, (-2))] kd m (zqI kd q)
    exact EvX.ret (r := (0, (-2))) (by decide +kernel) rfl ⟨_, rfl, rfl, h⟩
theorem S_Mo_becomes {d : Nat} {kd : ZK} {m : ZM} {q : Int → ZM → Prop} {v0 v1 v2 : Int} (h : (zobj kd v0 8 ∧ zIn kd (m v0 0) 0 v1 ∧ (((m (m v0 0) v1) ≠ v2 → (zobj kd v0 8 ∧ ∃ q1, CtV d M_Mo_keepsPast [(2, v0)] kd m q1 ∧ ∀ m3, q1 m3 → (zobj kd v0 8 ∧ zIn kd (m3 v0 0) 0 v1 ∧ q (m (m v0 0) v1) (zup m3 (m3 v0 0) v1 v2)))) ∧ (¬ (m (m v0 0) v1) ≠ v2 → q (-2) m)))) : CtI (d + 1) M_Mo_becomes [(2, v0), (0, v1), (0, v2)] kd m q :=
  Ct.start k_Mo_becomes (Nat.le_of_ble_eq_true rfl) ⟨1, Or.inr (Or.inl ⟨rfl, rfl⟩)⟩ (T_Mo_becomes_0 h)
set_option maxRecDepth 20000 in
set_option maxHeartbeats 1000000 in
theorem T_Mo_weigh_0 {d : Nat} {kd : ZK} {m : ZM} {q : Int → ZM → Prop} {v0 v1 v2 v3 : Int} (h : (zobj kd v0 8 ∧ ∃ q1, CtI d M_Mo_areTwo [(2, v0), (0, v1), (0, v2)] kd m q1 ∧ ∀ x2 m3, q1 x2 m3 → ((x2 = 0 → q (-1) m3) ∧ (¬ x2 = 0 → (∃ q4, CtI d M_Mo_in [(1, v3), (1, 0), (1, 9)] kd m3 q4 ∧ ∀ x5 m6, q4 x5 m6 → ((x5 = 0 → q (-1) m6) ∧ (¬ x5 = 0 → (∃ q7, CtI d M_Mo_twoOf [(0, v1), (0, v2)] kd m6 q7 ∧ ∀ x8 m9, q7 x8 m9 → (zobj kd v0 8 ∧ ∃ q10, CtI d M_Mo_becomes [(2, v0), (0, iw (4 + x8)), (0, v3)] kd m9 q10 ∧ ∀ x11 m12, q10 x11 m12 → q x11 m12))))))))) : Ev (d + 1) M_Mo_weigh 0 0 0 [(2, v0), (0, v1), (0, v2), (0, v3)] [] kd m (zqI kd q) := by
  refine EvX.blk (pc' := 3) [(.aload_n 0, 0, 0), (.iload_n 1, 0, 0), (.iload_n 2, 0, 0)] (by decide +kernel) trivial ?_
  show Ev (d + 1) M_Mo_weigh 0 0 3 [(2, v0), (0, v1), (0, v2), (0, v3)] [(0, v2), (0, v1), (2, v0)] kd m (zqI kd q)
  obtain ⟨ov, h⟩ := h
  obtain ⟨q1, hq, h⟩ := h
  refine EvX.callV (c := 8) (mc := 0) (ms := 0) (as := [(0, v1), (0, v2)]) (st := []) (by decide +kernel) l_Mo_174 k_Mo_areTwo v_Mo_areTwo a_Mo_areTwo (by decide) (Nat.le_of_ble_eq_true rfl) rfl ov hq (fun r kd1 m3 hr => ?_)
  obtain ⟨x2, rfl, hk, hr⟩ := hr
  subst kd1
  have h := h x2 m3 hr
  show Ev (d + 1) M_Mo_weigh 0 0 6 [(2, v0), (0, v1), (0, v2), (0, v3)] [(0, x2)] kd m3 (zqI kd q)
  refine EvX.if_eq (off := 30) (tgt := 36) (by decide +kernel) (by decide) (fun hc => ?_) (fun hc => ?_)
  · have h := h.1 hc
    refine EvX.blk (pc' := 37) [(.iconst (-1), 0, 0)] (by decide +kernel) trivial ?_
    show Ev (d + 1) M_Mo_weigh 0 0 37 [(2, v0), (0, v1), (0, v2), (0, v3)] [(0, (-1))] kd m3 (zqI kd q)
    exact EvX.ret (r := (0, (-1))) (by decide +kernel) rfl ⟨_, rfl, rfl, h⟩
  · have h := h.2 hc
    refine EvX.blk (pc' := 15) [(.iload_n 3, 0, 0), (.i2l, 0, 0), (.lconst 0, 0, 0), (.ldc2_w 186, 0, 9)] (by decide +kernel) ⟨z_Mo_186, trivial⟩ ?_
    show Ev (d + 1) M_Mo_weigh 0 0 15 [(2, v0), (0, v1), (0, v2), (0, v3)] [(1, 9), (1, 0), (1, v3)] kd m3 (zqI kd q)
    obtain ⟨q4, hq, h⟩ := h
    refine EvX.callS (mc := 0) (ms := 0) (as := [(1, v3), (1, 0), (1, 9)]) (st := []) (by decide +kernel) l_Mo_93 k_Mo_in s_Mo_in a_Mo_in (by decide) (Nat.le_of_ble_eq_true rfl) hq (fun r kd1 m6 hr => ?_)
    obtain ⟨x5, rfl, hk, hr⟩ := hr
    subst kd1
    have h := h x5 m6 hr
    show Ev (d + 1) M_Mo_weigh 0 0 18 [(2, v0), (0, v1), (0, v2), (0, v3)] [(0, x5)] kd m6 (zqI kd q)
    refine EvX.if_eq (off := 18) (tgt := 36) (by decide +kernel) (by decide) (fun hc => ?_) (fun hc => ?_)
    · have h := h.1 hc
      refine EvX.blk (pc' := 37) [(.iconst (-1), 0, 0)] (by decide +kernel) trivial ?_
      show Ev (d + 1) M_Mo_weigh 0 0 37 [(2, v0), (0, v1), (0, v2), (0, v3)] [(0, (-1))] kd m6 (zqI kd q)
      exact EvX.ret (r := (0, (-1))) (by decide +kernel) rfl ⟨_, rfl, rfl, h⟩
    · have h := h.2 hc
      refine EvX.blk (pc' := 25) [(.aload_n 0, 0, 0), (.iconst 4, 0, 0), (.iload_n 1, 0, 0), (.iload_n 2, 0, 0)] (by decide +kernel) trivial ?_
      show Ev (d + 1) M_Mo_weigh 0 0 25 [(2, v0), (0, v1), (0, v2), (0, v3)] [(0, v2), (0, v1), (0, 4), (2, v0)] kd m6 (zqI kd q)
      obtain ⟨q7, hq, h⟩ := h
      refine EvX.callS (mc := 0) (ms := 0) (as := [(0, v1), (0, v2)]) (st := [(0, 4), (2, v0)]) (by decide +kernel) l_Mo_60 k_Mo_twoOf s_Mo_twoOf a_Mo_twoOf (by decide) (Nat.le_of_ble_eq_true rfl) hq (fun r kd1 m9 hr => ?_)
      obtain ⟨x8, rfl, hk, hr⟩ := hr
      subst kd1
      have h := h x8 m9 hr
      show Ev (d + 1) M_Mo_weigh 0 0 28 [(2, v0), (0, v1), (0, v2), (0, v3)] [(0, x8), (0, 4), (2, v0)] kd m9 (zqI kd q)
      refine EvX.blk (pc' := 30) [(.iadd, 0, 0), (.iload_n 3, 0, 0)] (by decide +kernel) trivial ?_
      show Ev (d + 1) M_Mo_weigh 0 0 30 [(2, v0), (0, v1), (0, v2), (0, v3)] [(0, v3), (0, iw (4 + x8)), (2, v0)] kd m9 (zqI kd q)
      obtain ⟨ov, h⟩ := h
      obtain ⟨q10, hq, h⟩ := h
      refine EvX.callV (c := 8) (mc := 0) (ms := 0) (as := [(0, iw (4 + x8)), (0, v3)]) (st := []) (by decide +kernel) l_Mo_188 k_Mo_becomes v_Mo_becomes a_Mo_becomes (by decide) (Nat.le_of_ble_eq_true rfl) rfl ov hq (fun r kd1 m12 hr => ?_)
      obtain ⟨x11, rfl, hk, hr⟩ := hr
      subst kd1
      have h := h x11 m12 hr
      show Ev (d + 1) M_Mo_weigh 0 0 33 [(2, v0), (0, v1), (0, v2), (0, v3)] [(0, x11)] kd m12 (zqI kd q)
      refine EvX.goto (off := 4) (tgt := 37) (by decide +kernel) (by decide) ?_
      exact EvX.ret (r := (0, x11)) (by decide +kernel) rfl ⟨_, rfl, rfl, h⟩
theorem S_Mo_weigh {d : Nat} {kd : ZK} {m : ZM} {q : Int → ZM → Prop} {v0 v1 v2 v3 : Int} (h : (zobj kd v0 8 ∧ ∃ q1, CtI d M_Mo_areTwo [(2, v0), (0, v1), (0, v2)] kd m q1 ∧ ∀ x2 m3, q1 x2 m3 → ((x2 = 0 → q (-1) m3) ∧ (¬ x2 = 0 → (∃ q4, CtI d M_Mo_in [(1, v3), (1, 0), (1, 9)] kd m3 q4 ∧ ∀ x5 m6, q4 x5 m6 → ((x5 = 0 → q (-1) m6) ∧ (¬ x5 = 0 → (∃ q7, CtI d M_Mo_twoOf [(0, v1), (0, v2)] kd m6 q7 ∧ ∀ x8 m9, q7 x8 m9 → (zobj kd v0 8 ∧ ∃ q10, CtI d M_Mo_becomes [(2, v0), (0, iw (4 + x8)), (0, v3)] kd m9 q10 ∧ ∀ x11 m12, q10 x11 m12 → q x11 m12))))))))) : CtI (d + 1) M_Mo_weigh [(2, v0), (0, v1), (0, v2), (0, v3)] kd m q :=
  Ct.start k_Mo_weigh (Nat.le_of_ble_eq_true rfl) ⟨1, Or.inr (Or.inl ⟨rfl, rfl⟩)⟩ (T_Mo_weigh_0 h)
set_option maxRecDepth 20000 in
set_option maxHeartbeats 1000000 in
theorem T_Mo_box_0 {d : Nat} {kd : ZK} {m : ZM} {q : Int → ZM → Prop} {v0 v1 v2 v3 v4 v5 : Int} (h : (zobj kd v0 8 ∧ ∃ q1, CtI d M_Mo_areFour [(2, v0), (0, v1), (0, v2), (0, v3), (0, v4)] kd m q1 ∧ ∀ x2 m3, q1 x2 m3 → ((x2 = 0 → q (-1) m3) ∧ (¬ x2 = 0 → (∃ q4, CtI d M_Mo_in [(1, v5), (1, 0), (1, 12)] kd m3 q4 ∧ ∀ x5 m6, q4 x5 m6 → ((x5 = 0 → q (-1) m6) ∧ (¬ x5 = 0 → (∃ q7, CtI d M_Mo_fourOf [(0, v1), (0, v2), (0, v3), (0, v4)] kd m6 q7 ∧ ∀ x8 m9, q7 x8 m9 → (zobj kd v0 8 ∧ ∃ q10, CtI d M_Mo_becomes [(2, v0), (0, iw (429 + x8)), (0, v5)] kd m9 q10 ∧ ∀ x11 m12, q10 x11 m12 → q x11 m12))))))))) : Ev (d + 1) M_Mo_box 0 0 0 [(2, v0), (0, v1), (0, v2), (0, v3), (0, v4), (0, v5)] [] kd m (zqI kd q) := by
  refine EvX.blk (pc' := 6) [(.aload_n 0, 0, 0), (.iload_n 1, 0, 0), (.iload_n 2, 0, 0), (.iload_n 3, 0, 0), (.iload 4, 0, 0)] (by decide +kernel) trivial ?_
  show Ev (d + 1) M_Mo_box 0 0 6 [(2, v0), (0, v1), (0, v2), (0, v3), (0, v4), (0, v5)] [(0, v4), (0, v3), (0, v2), (0, v1), (2, v0)] kd m (zqI kd q)
  obtain ⟨ov, h⟩ := h
  obtain ⟨q1, hq, h⟩ := h
  refine EvX.callV (c := 8) (mc := 0) (ms := 0) (as := [(0, v1), (0, v2), (0, v3), (0, v4)]) (st := []) (by decide +kernel) l_Mo_191 k_Mo_areFour v_Mo_areFour a_Mo_areFour (by decide) (Nat.le_of_ble_eq_true rfl) rfl ov hq (fun r kd1 m3 hr => ?_)
  obtain ⟨x2, rfl, hk, hr⟩ := hr
  subst kd1
  have h := h x2 m3 hr
  show Ev (d + 1) M_Mo_box 0 0 9 [(2, v0), (0, v1), (0, v2), (0, v3), (0, v4), (0, v5)] [(0, x2)] kd m3 (zqI kd q)
  refine EvX.if_eq (off := 37) (tgt := 46) (by decide +kernel) (by decide) (fun hc => ?_) (fun hc => ?_)
  · have h := h.1 hc
    refine EvX.blk (pc' := 47) [(.iconst (-1), 0, 0)] (by decide +kernel) trivial ?_
    show Ev (d + 1) M_Mo_box 0 0 47 [(2, v0), (0, v1), (0, v2), (0, v3), (0, v4), (0, v5)] [(0, (-1))] kd m3 (zqI kd q)
    exact EvX.ret (r := (0, (-1))) (by decide +kernel) rfl ⟨_, rfl, rfl, h⟩
  · have h := h.2 hc
    refine EvX.blk (pc' := 19) [(.iload 5, 0, 0), (.i2l, 0, 0), (.lconst 0, 0, 0), (.ldc2_w 195, 0, 12)] (by decide +kernel) ⟨z_Mo_195, trivial⟩ ?_
    show Ev (d + 1) M_Mo_box 0 0 19 [(2, v0), (0, v1), (0, v2), (0, v3), (0, v4), (0, v5)] [(1, 12), (1, 0), (1, v5)] kd m3 (zqI kd q)
    obtain ⟨q4, hq, h⟩ := h
    refine EvX.callS (mc := 0) (ms := 0) (as := [(1, v5), (1, 0), (1, 12)]) (st := []) (by decide +kernel) l_Mo_93 k_Mo_in s_Mo_in a_Mo_in (by decide) (Nat.le_of_ble_eq_true rfl) hq (fun r kd1 m6 hr => ?_)
    obtain ⟨x5, rfl, hk, hr⟩ := hr
    subst kd1
    have h := h x5 m6 hr
    show Ev (d + 1) M_Mo_box 0 0 22 [(2, v0), (0, v1), (0, v2), (0, v3), (0, v4), (0, v5)] [(0, x5)] kd m6 (zqI kd q)
    refine EvX.if_eq (off := 24) (tgt := 46) (by decide +kernel) (by decide) (fun hc => ?_) (fun hc => ?_)
    · have h := h.1 hc
      refine EvX.blk (pc' := 47) [(.iconst (-1), 0, 0)] (by decide +kernel) trivial ?_
      show Ev (d + 1) M_Mo_box 0 0 47 [(2, v0), (0, v1), (0, v2), (0, v3), (0, v4), (0, v5)] [(0, (-1))] kd m6 (zqI kd q)
      exact EvX.ret (r := (0, (-1))) (by decide +kernel) rfl ⟨_, rfl, rfl, h⟩
    · have h := h.2 hc
      refine EvX.blk (pc' := 34) [(.aload_n 0, 0, 0), (.sipush 429, 0, 0), (.iload_n 1, 0, 0), (.iload_n 2, 0, 0), (.iload_n 3, 0, 0), (.iload 4, 0, 0)] (by decide +kernel) trivial ?_
      show Ev (d + 1) M_Mo_box 0 0 34 [(2, v0), (0, v1), (0, v2), (0, v3), (0, v4), (0, v5)] [(0, v4), (0, v3), (0, v2), (0, v1), (0, 429), (2, v0)] kd m6 (zqI kd q)
      obtain ⟨q7, hq, h⟩ := h
      refine EvX.callS (mc := 0) (ms := 0) (as := [(0, v1), (0, v2), (0, v3), (0, v4)]) (st := [(0, 429), (2, v0)]) (by decide +kernel) l_Mo_122 k_Mo_fourOf s_Mo_fourOf a_Mo_fourOf (by decide) (Nat.le_of_ble_eq_true rfl) hq (fun r kd1 m9 hr => ?_)
      obtain ⟨x8, rfl, hk, hr⟩ := hr
      subst kd1
      have h := h x8 m9 hr
      show Ev (d + 1) M_Mo_box 0 0 37 [(2, v0), (0, v1), (0, v2), (0, v3), (0, v4), (0, v5)] [(0, x8), (0, 429), (2, v0)] kd m9 (zqI kd q)
      refine EvX.blk (pc' := 40) [(.iadd, 0, 0), (.iload 5, 0, 0)] (by decide +kernel) trivial ?_
      show Ev (d + 1) M_Mo_box 0 0 40 [(2, v0), (0, v1), (0, v2), (0, v3), (0, v4), (0, v5)] [(0, v5), (0, iw (429 + x8)), (2, v0)] kd m9 (zqI kd q)
      obtain ⟨ov, h⟩ := h
      obtain ⟨q10, hq, h⟩ := h
      refine EvX.callV (c := 8) (mc := 0) (ms := 0) (as := [(0, iw (429 + x8)), (0, v5)]) (st := []) (by decide +kernel) l_Mo_188 k_Mo_becomes v_Mo_becomes a_Mo_becomes (by decide) (Nat.le_of_ble_eq_true rfl) rfl ov hq (fun r kd1 m12 hr => ?_)
      obtain ⟨x11, rfl, hk, hr⟩ := hr
      subst kd1
      have h := h x11 m12 hr
      show Ev (d + 1) M_Mo_box 0 0 43 [(2, v0), (0, v1), (0, v2), (0, v3), (0, v4), (0, v5)] [(0, x11)] kd m12 (zqI kd q)
      refine EvX.goto (off := 4) (tgt := 47) (by decide +kernel) (by decide) ?_
      exact EvX.ret (r := (0, x11)) (by decide +kernel) rfl ⟨_, rfl, rfl, h⟩
theorem S_Mo_box {d : Nat} {kd : ZK} {m : ZM} {q : Int → ZM → Prop} {v0 v1 v2 v3 v4 v5 : Int} (h : (zobj kd v0 8 ∧ ∃ q1, CtI d M_Mo_areFour [(2, v0), (0, v1), (0, v2), (0, v3), (0, v4)] kd m q1 ∧ ∀ x2 m3, q1 x2 m3 → ((x2 = 0 → q (-1) m3) ∧ (¬ x2 = 0 → (∃ q4, CtI d M_Mo_in [(1, v5), (1, 0), (1, 12)] kd m3 q4 ∧ ∀ x5 m6, q4 x5 m6 → ((x5 = 0 → q (-1) m6) ∧ (¬ x5 = 0 → (∃ q7, CtI d M_Mo_fourOf [(0, v1), (0, v2), (0, v3), (0, v4)] kd m6 q7 ∧ ∀ x8 m9, q7 x8 m9 → (zobj kd v0 8 ∧ ∃ q10, CtI d M_Mo_becomes [(2, v0), (0, iw (429 + x8)), (0, v5)] kd m9 q10 ∧ ∀ x11 m12, q10 x11 m12 → q x11 m12))))))))) : CtI (d + 1) M_Mo_box [(2, v0), (0, v1), (0, v2), (0, v3), (0, v4), (0, v5)] kd m q :=
  Ct.start k_Mo_box (Nat.le_of_ble_eq_true rfl) ⟨1, Or.inr (Or.inl ⟨rfl, rfl⟩)⟩ (T_Mo_box_0 h)
set_option maxRecDepth 20000 in
set_option maxHeartbeats 1000000 in
theorem T_Mo_decide_0 {d : Nat} {kd : ZK} {m : ZM} {q : Int → ZM → Prop} {v0 v1 v2 v3 v4 : Int} (h : (zobj kd v0 8 ∧ ∃ q1, CtI d M_Mo_areFour [(2, v0), (0, v1), (0, v2), (0, v3), (0, v4)] kd m q1 ∧ ∀ x2 m3, q1 x2 m3 → ((x2 ≠ 0 → (zobj kd v0 8 ∧ ∃ q4, CtV d M_Mo_keepsPast [(2, v0)] kd m3 q4 ∧ ∀ m6, q4 m6 → (zobj kd v0 8 ∧ (∃ q7, CtI d M_Mo_fourOf [(0, v1), (0, v2), (0, v3), (0, v4)] kd m6 q7 ∧ ∀ x8 m9, q7 x8 m9 → (zobj kd v0 8 ∧ (∃ q10, CtI d M_Mo_fourOf [(0, v1), (0, v2), (0, v3), (0, v4)] kd m9 q10 ∧ ∀ x11 m12, q10 x11 m12 → (zIn kd (m9 v0 0) 0 (iw (29 + x11)) ∧ zIn kd (m6 v0 0) 0 (iw (29 + x8)) ∧ zobj kd v0 8 ∧ (∃ q13, CtI d M_Mo_fourOf [(0, v1), (0, v2), (0, v3), (0, v4)] kd (zup m12 (m6 v0 0) (iw (29 + x8)) (iw (1 - (m12 (m9 v0 0) (iw (29 + x11)))))) q13 ∧ ∀ x14 m15, q13 x14 m15 → (zIn kd ((zup m12 (m6 v0 0) (iw (29 + x8)) (iw (1 - (m12 (m9 v0 0) (iw (29 + x11)))))) v0 0) 0 (iw (29 + x14)) ∧ q (m15 ((zup m12 (m6 v0 0) (iw (29 + x8)) (iw (1 - (m12 (m9 v0 0) (iw (29 + x11)))))) v0 0) (iw (29 + x14))) m15))))))))) ∧ (¬ x2 ≠ 0 → q (-1) m3)))) : Ev (d + 1) M_Mo_decide 0 0 0 [(2, v0), (0, v1), (0, v2), (0, v3), (0, v4)] [] kd m (zqI kd q) := by
  refine EvX.blk (pc' := 6) [(.aload_n 0, 0, 0), (.iload_n 1, 0, 0), (.iload_n 2, 0, 0), (.iload_n 3, 0, 0), (.iload 4, 0, 0)] (by decide +kernel) trivial ?_
  show Ev (d + 1) M_Mo_decide 0 0 6 [(2, v0), (0, v1), (0, v2), (0, v3), (0, v4)] [(0, v4), (0, v3), (0, v2), (0, v1), (2, v0)] kd m (zqI kd q)
  obtain ⟨ov, h⟩ := h
  obtain ⟨q1, hq, h⟩ := h
  refine EvX.callV (c := 8) (mc := 0) (ms := 0) (as := [(0, v1), (0, v2), (0, v3), (0, v4)]) (st := []) (by decide +kernel) l_Mo_191 k_Mo_areFour v_Mo_areFour a_Mo_areFour (by decide) (Nat.le_of_ble_eq_true rfl) rfl ov hq (fun r kd1 m3 hr => ?_)
  obtain ⟨x2, rfl, hk, hr⟩ := hr
  subst kd1
  have h := h x2 m3 hr
  show Ev (d + 1) M_Mo_decide 0 0 9 [(2, v0), (0, v1), (0, v2), (0, v3), (0, v4)] [(0, x2)] kd m3 (zqI kd q)
  refine EvX.if_ne (off := 5) (tgt := 14) (by decide +kernel) (by decide) (fun hc => ?_) (fun hc => ?_)
  · have h := h.1 hc
    refine EvX.blk (pc' := 15) [(.aload_n 0, 0, 0)] (by decide +kernel) trivial ?_
    show Ev (d + 1) M_Mo_decide 0 0 15 [(2, v0), (0, v1), (0, v2), (0, v3), (0, v4)] [(2, v0)] kd m3 (zqI kd q)
    obtain ⟨ov, h⟩ := h
    obtain ⟨q4, hq, h⟩ := h
    refine EvX.callV (c := 8) (mc := 0) (ms := 0) (as := []) (st := []) (by decide +kernel) l_Mo_183 k_Mo_keepsPast v_Mo_keepsPast a_Mo_keepsPast (by decide) (Nat.le_of_ble_eq_true rfl) rfl ov hq (fun r kd1 m6 hr => ?_)
    obtain ⟨rfl, hk, hr⟩ := hr
    subst kd1
    have h := h m6 hr
    show Ev (d + 1) M_Mo_decide 0 0 18 [(2, v0), (0, v1), (0, v2), (0, v3), (0, v4)] [] kd m6 (zqI kd q)
    obtain ⟨o1, h⟩ := h
    refine EvX.blk (pc' := 29) [(.aload_n 0, 0, 0), (.getfield 9, 8, 0), (.bipush 29, 0, 0), (.iload_n 1, 0, 0), (.iload_n 2, 0, 0), (.iload_n 3, 0, 0), (.iload 4, 0, 0)] (by decide +kernel) ⟨g_Mo_9, trivial⟩ ⟨o1, ?_⟩
    show Ev (d + 1) M_Mo_decide 0 0 29 [(2, v0), (0, v1), (0, v2), (0, v3), (0, v4)] [(0, v4), (0, v3), (0, v2), (0, v1), (0, 29), (2, m6 v0 0)] kd m6 (zqI kd q)
    obtain ⟨q7, hq, h⟩ := h
    refine EvX.callS (mc := 0) (ms := 0) (as := [(0, v1), (0, v2), (0, v3), (0, v4)]) (st := [(0, 29), (2, m6 v0 0)]) (by decide +kernel) l_Mo_122 k_Mo_fourOf s_Mo_fourOf a_Mo_fourOf (by decide) (Nat.le_of_ble_eq_true rfl) hq (fun r kd1 m9 hr => ?_)
    obtain ⟨x8, rfl, hk, hr⟩ := hr
    subst kd1
    have h := h x8 m9 hr
    show Ev (d + 1) M_Mo_decide 0 0 32 [(2, v0), (0, v1), (0, v2), (0, v3), (0, v4)] [(0, x8), (0, 29), (2, m6 v0 0)] kd m9 (zqI kd q)
    obtain ⟨o1, h⟩ := h
    refine EvX.blk (pc' := 45) [(.iadd, 0, 0), (.iconst 1, 0, 0), (.aload_n 0, 0, 0), (.getfield 9, 8, 0), (.bipush 29, 0, 0), (.iload_n 1, 0, 0), (.iload_n 2, 0, 0), (.iload_n 3, 0, 0), (.iload 4, 0, 0)] (by decide +kernel) ⟨g_Mo_9, trivial⟩ ⟨o1, ?_⟩
    show Ev (d + 1) M_Mo_decide 0 0 45 [(2, v0), (0, v1), (0, v2), (0, v3), (0, v4)] [(0, v4), (0, v3), (0, v2), (0, v1), (0, 29), (2, m9 v0 0), (0, 1), (0, iw (29 + x8)), (2, m6 v0 0)] kd m9 (zqI kd q)
    obtain ⟨q10, hq, h⟩ := h
    refine EvX.callS (mc := 0) (ms := 0) (as := [(0, v1), (0, v2), (0, v3), (0, v4)]) (st := [(0, 29), (2, m9 v0 0), (0, 1), (0, iw (29 + x8)), (2, m6 v0 0)]) (by decide +kernel) l_Mo_122 k_Mo_fourOf s_Mo_fourOf a_Mo_fourOf (by decide) (Nat.le_of_ble_eq_true rfl) hq (fun r kd1 m12 hr => ?_)
    obtain ⟨x11, rfl, hk, hr⟩ := hr
    subst kd1
    have h := h x11 m12 hr
    show Ev (d + 1) M_Mo_decide 0 0 48 [(2, v0), (0, v1), (0, v2), (0, v3), (0, v4)] [(0, x11), (0, 29), (2, m9 v0 0), (0, 1), (0, iw (29 + x8)), (2, m6 v0 0)] kd m12 (zqI kd q)
    obtain ⟨o1, o2, o3, h⟩ := h
    refine EvX.blk (pc' := 63) [(.iadd, 0, 0), (.iaload, 0, 0), (.isub, 0, 0), (.iastore, 0, 0), (.aload_n 0, 0, 0), (.getfield 9, 8, 0), (.bipush 29, 0, 0), (.iload_n 1, 0, 0), (.iload_n 2, 0, 0), (.iload_n 3, 0, 0), (.iload 4, 0, 0)] (by decide +kernel) ⟨g_Mo_9, trivial⟩ ⟨o1, o2, o3, ?_⟩
    show Ev (d + 1) M_Mo_decide 0 0 63 [(2, v0), (0, v1), (0, v2), (0, v3), (0, v4)] [(0, v4), (0, v3), (0, v2), (0, v1), (0, 29), (2, (zup m12 (m6 v0 0) (iw (29 + x8)) (iw (1 - (m12 (m9 v0 0) (iw (29 + x11)))))) v0 0)] kd (zup m12 (m6 v0 0) (iw (29 + x8)) (iw (1 - (m12 (m9 v0 0) (iw (29 + x11)))))) (zqI kd q)
    obtain ⟨q13, hq, h⟩ := h
    refine EvX.callS (mc := 0) (ms := 0) (as := [(0, v1), (0, v2), (0, v3), (0, v4)]) (st := [(0, 29), (2, (zup m12 (m6 v0 0) (iw (29 + x8)) (iw (1 - (m12 (m9 v0 0) (iw (29 + x11)))))) v0 0)]) (by decide +kernel) l_Mo_122 k_Mo_fourOf s_Mo_fourOf a_Mo_fourOf (by decide) (Nat.le_of_ble_eq_true rfl) hq (fun r kd1 m15 hr => ?_)
    obtain ⟨x14, rfl, hk, hr⟩ := hr
    subst kd1
    have h := h x14 m15 hr
    show Ev (d + 1) M_Mo_decide 0 0 66 [(2, v0), (0, v1), (0, v2), (0, v3), (0, v4)] [(0, x14), (0, 29), (2, (zup m12 (m6 v0 0) (iw (29 + x8)) (iw (1 - (m12 (m9 v0 0) (iw (29 + x11)))))) v0 0)] kd m15 (zqI kd q)
    obtain ⟨o1, h⟩ := h
    refine EvX.blk (pc' := 68) [(.iadd, 0, 0), (.iaload, 0, 0)] (by decide +kernel) trivial ⟨o1, ?_⟩
    show Ev (d + 1) M_Mo_decide 0 0 68 [(2, v0), (0, v1), (0, v2), (0, v3), (0, v4)] [(0, m15 ((zup m12 (m6 v0 0) (iw (29 + x8)) (iw (1 - (m12 (m9 v0 0) (iw (29 + x11)))))) v0 0) (iw (29 + x14)))] kd m15 (zqI kd q)
    exact EvX.ret (r := (0, m15 ((zup m12 (m6 v0 0) (iw (29 + x8)) (iw (1 - (m12 (m9 v0 0) (iw (29 + x11)))))) v0 0) (iw (29 + x14)))) (by decide +kernel) rfl ⟨_, rfl, rfl, h⟩
  · have h := h.2 hc
    refine EvX.blk (pc' := 13) [(.iconst (-1), 0, 0)] (by decide +kernel) trivial ?_
    show Ev (d + 1) M_Mo_decide 0 0 13 [(2, v0), (0, v1), (0, v2), (0, v3), (0, v4)] [(0, (-1))] kd m3 (zqI kd q)
    exact EvX.ret (r := (0, (-1))) (by decide +kernel) rfl ⟨_, rfl, rfl, h⟩
theorem S_Mo_decide {d : Nat} {kd : ZK} {m : ZM} {q : Int → ZM → Prop} {v0 v1 v2 v3 v4 : Int} (h : (zobj kd v0 8 ∧ ∃ q1, CtI d M_Mo_areFour [(2, v0), (0, v1), (0, v2), (0, v3), (0, v4)] kd m q1 ∧ ∀ x2 m3, q1 x2 m3 → ((x2 ≠ 0 → (zobj kd v0 8 ∧ ∃ q4, CtV d M_Mo_keepsPast [(2, v0)] kd m3 q4 ∧ ∀ m6, q4 m6 → (zobj kd v0 8 ∧ (∃ q7, CtI d M_Mo_fourOf [(0, v1), (0, v2), (0, v3), (0, v4)] kd m6 q7 ∧ ∀ x8 m9, q7 x8 m9 → (zobj kd v0 8 ∧ (∃ q10, CtI d M_Mo_fourOf [(0, v1), (0, v2), (0, v3), (0, v4)] kd m9 q10 ∧ ∀ x11 m12, q10 x11 m12 → (zIn kd (m9 v0 0) 0 (iw (29 + x11)) ∧ zIn kd (m6 v0 0) 0 (iw (29 + x8)) ∧ zobj kd v0 8 ∧ (∃ q13, CtI d M_Mo_fourOf [(0, v1), (0, v2), (0, v3), (0, v4)] kd (zup m12 (m6 v0 0) (iw (29 + x8)) (iw (1 - (m12 (m9 v0 0) (iw (29 + x11)))))) q13 ∧ ∀ x14 m15, q13 x14 m15 → (zIn kd ((zup m12 (m6 v0 0) (iw (29 + x8)) (iw (1 - (m12 (m9 v0 0) (iw (29 + x11)))))) v0 0) 0 (iw (29 + x14)) ∧ q (m15 ((zup m12 (m6 v0 0) (iw (29 + x8)) (iw (1 - (m12 (m9 v0 0) (iw (29 + x11)))))) v0 0) (iw (29 + x14))) m15))))))))) ∧ (¬ x2 ≠ 0 → q (-1) m3)))) : CtI (d + 1) M_Mo_decide [(2, v0), (0, v1), (0, v2), (0, v3), (0, v4)] kd m q :=
  Ct.start k_Mo_decide (Nat.le_of_ble_eq_true rfl) ⟨1, Or.inr (Or.inl ⟨rfl, rfl⟩)⟩ (T_Mo_decide_0 h)
set_option maxRecDepth 20000 in
set_option maxHeartbeats 1000000 in
theorem T_Mo_isParity_0 {d : Nat} {kd : ZK} {m : ZM} {q : Int → ZM → Prop} {v0 v1 v2 v3 : Int} (h : (Ev (d + 1) M_Mo_isParity 0 0 6 [(2, v0), (0, v1), (0, v2), (0, v3), (0, 1), (0, 0), zJ] [] kd m (zqI kd q))) : Ev (d + 1) M_Mo_isParity 0 0 0 [(2, v0), (0, v1), (0, v2), (0, v3), zJ, zJ, zJ] [] kd m (zqI kd q) := by
  refine EvX.blk (pc' := 6) [(.iconst 1, 0, 0), (.istore 4, 0, 0), (.iconst 0, 0, 0), (.istore 5, 0, 0)] (by decide +kernel) trivial ?_
  show Ev (d + 1) M_Mo_isParity 0 0 6 [(2, v0), (0, v1), (0, v2), (0, v3), (0, 1), (0, 0), zJ] [] kd m (zqI kd q)
  exact h
theorem S_Mo_isParity {d : Nat} {kd : ZK} {m : ZM} {q : Int → ZM → Prop} {v0 v1 v2 v3 : Int} (h : (Ev (d + 1) M_Mo_isParity 0 0 6 [(2, v0), (0, v1), (0, v2), (0, v3), (0, 1), (0, 0), zJ] [] kd m (zqI kd q))) : CtI (d + 1) M_Mo_isParity [(2, v0), (0, v1), (0, v2), (0, v3)] kd m q :=
  Ct.start k_Mo_isParity (Nat.le_of_ble_eq_true rfl) ⟨2, Or.inr (Or.inr (Or.inl ⟨rfl, rfl⟩))⟩ (T_Mo_isParity_0 h)
set_option maxRecDepth 20000 in
set_option maxHeartbeats 1000000 in
theorem T_Mo_isParity_6 {d : Nat} {kd : ZK} {m : ZM} {q : Int → ZM → Prop} {v0 v1 v2 v3 v4 v5 : Int} (h : (zobj kd v0 8 ∧ ∃ q1, CtI d M_Mo_answers [(2, v0), (0, 0)] kd m q1 ∧ ∀ x2 m3, q1 x2 m3 → ((x2 ≤ v5 → ((0 ≤ v4 ∧ v4 ≤ 1) ∧ q v4 m3)) ∧ (¬ x2 ≤ v5 → (Ev (d + 1) M_Mo_isParity 0 0 19 [(2, v0), (0, v1), (0, v2), (0, v3), (0, v4), (0, v5), (0, 0)] [] kd m3 (zqI kd q)))))) : Ev (d + 1) M_Mo_isParity 0 0 6 [(2, v0), (0, v1), (0, v2), (0, v3), (0, v4), (0, v5), zJ] [] kd m (zqI kd q) := by
  refine EvX.blk (pc' := 10) [(.iload 5, 0, 0), (.aload_n 0, 0, 0), (.iconst 0, 0, 0)] (by decide +kernel) trivial ?_
  show Ev (d + 1) M_Mo_isParity 0 0 10 [(2, v0), (0, v1), (0, v2), (0, v3), (0, v4), (0, v5), zJ] [(0, 0), (2, v0), (0, v5)] kd m (zqI kd q)
  obtain ⟨ov, h⟩ := h
  obtain ⟨q1, hq, h⟩ := h
  refine EvX.callV (c := 8) (mc := 0) (ms := 0) (as := [(0, 0)]) (st := [(0, v5)]) (by decide +kernel) l_Mo_167 k_Mo_answers v_Mo_answers a_Mo_answers (by decide) (Nat.le_of_ble_eq_true rfl) rfl ov hq (fun r kd1 m3 hr => ?_)
  obtain ⟨x2, rfl, hk, hr⟩ := hr
  subst kd1
  have h := h x2 m3 hr
  show Ev (d + 1) M_Mo_isParity 0 0 13 [(2, v0), (0, v1), (0, v2), (0, v3), (0, v4), (0, v5), zJ] [(0, x2), (0, v5)] kd m3 (zqI kd q)
  refine EvX.icmp_ge (off := 69) (tgt := 82) (by decide +kernel) (by decide) (fun hc => ?_) (fun hc => ?_)
  · have h := h.1 hc
    refine EvX.blk (pc' := 84) [(.iload 4, 0, 0)] (by decide +kernel) trivial ?_
    show Ev (d + 1) M_Mo_isParity 0 0 84 [(2, v0), (0, v1), (0, v2), (0, v3), (0, v4), (0, v5), zJ] [(0, v4)] kd m3 (zqI kd q)
    exact EvX.ret (r := (0, v4)) (by decide +kernel) ⟨rfl, h.1.1, h.1.2⟩ ⟨_, rfl, rfl, h.2⟩
  · have h := h.2 hc
    refine EvX.blk (pc' := 19) [(.iconst 0, 0, 0), (.istore 6, 0, 0)] (by decide +kernel) trivial ?_
    show Ev (d + 1) M_Mo_isParity 0 0 19 [(2, v0), (0, v1), (0, v2), (0, v3), (0, v4), (0, v5), (0, 0)] [] kd m3 (zqI kd q)
    exact h
set_option maxRecDepth 20000 in
set_option maxHeartbeats 1000000 in
theorem T_Mo_isParity_19 {d : Nat} {kd : ZK} {m : ZM} {q : Int → ZM → Prop} {v0 v1 v2 v3 v4 v5 v6 : Int} (h : (zobj kd v0 8 ∧ ∃ q1, CtI d M_Mo_answers [(2, v0), (0, 1)] kd m q1 ∧ ∀ x2 m3, q1 x2 m3 → ((x2 ≤ v6 → (Ev (d + 1) M_Mo_isParity 0 0 6 [(2, v0), (0, v1), (0, v2), (0, v3), (0, v4), (0, iw (v5 + 1)), zJ] [] kd m3 (zqI kd q))) ∧ (¬ x2 ≤ v6 → ((v4 = 0 → (Ev (d + 1) M_Mo_isParity 0 0 19 [(2, v0), (0, v1), (0, v2), (0, v3), (0, 0), (0, v5), (0, iw (v6 + 1))] [] kd m3 (zqI kd q))) ∧ (¬ v4 = 0 → (zobj kd v0 8 ∧ ∃ q4, CtI d M_Mo_isWin [(2, v0), (0, v1), (0, v2), (0, v5), (0, v6)] kd m3 q4 ∧ ∀ x5 m6, q4 x5 m6 → (((Int.tmod (iw (v5 + v6)) 2) ≠ v3 → (Ev (d + 1) M_Mo_isParity 0 0 60 [(2, v0), (0, v1), (0, v2), (0, v3), zJ, (0, v5), (0, v6)] [(0, 0), (0, x5)] kd m6 (zqI kd q))) ∧ (¬ (Int.tmod (iw (v5 + v6)) 2) ≠ v3 → (Ev (d + 1) M_Mo_isParity 0 0 60 [(2, v0), (0, v1), (0, v2), (0, v3), zJ, (0, v5), (0, v6)] [(0, 1), (0, x5)] kd m6 (zqI kd q))))))))))) : Ev (d + 1) M_Mo_isParity 0 0 19 [(2, v0), (0, v1), (0, v2), (0, v3), (0, v4), (0, v5), (0, v6)] [] kd m (zqI kd q) := by
  refine EvX.blk (pc' := 23) [(.iload 6, 0, 0), (.aload_n 0, 0, 0), (.iconst 1, 0, 0)] (by decide +kernel) trivial ?_
  show Ev (d + 1) M_Mo_isParity 0 0 23 [(2, v0), (0, v1), (0, v2), (0, v3), (0, v4), (0, v5), (0, v6)] [(0, 1), (2, v0), (0, v6)] kd m (zqI kd q)
  obtain ⟨ov, h⟩ := h
  obtain ⟨q1, hq, h⟩ := h
  refine EvX.callV (c := 8) (mc := 0) (ms := 0) (as := [(0, 1)]) (st := [(0, v6)]) (by decide +kernel) l_Mo_167 k_Mo_answers v_Mo_answers a_Mo_answers (by decide) (Nat.le_of_ble_eq_true rfl) rfl ov hq (fun r kd1 m3 hr => ?_)
  obtain ⟨x2, rfl, hk, hr⟩ := hr
  subst kd1
  have h := h x2 m3 hr
  show Ev (d + 1) M_Mo_isParity 0 0 26 [(2, v0), (0, v1), (0, v2), (0, v3), (0, v4), (0, v5), (0, v6)] [(0, x2), (0, v6)] kd m3 (zqI kd q)
  refine EvX.icmp_ge (off := 50) (tgt := 76) (by decide +kernel) (by decide) (fun hc => ?_) (fun hc => ?_)
  · have h := h.1 hc
    refine EvX.blk (pc' := 79) [(.iinc 5 1, 0, 0)] (by decide +kernel) trivial ?_
    show Ev (d + 1) M_Mo_isParity 0 0 79 [(2, v0), (0, v1), (0, v2), (0, v3), (0, v4), (0, iw (v5 + 1)), (0, v6)] [] kd m3 (zqI kd q)
    refine EvX.goto (off := (-73)) (tgt := 6) (by decide +kernel) (by decide) ?_
    exact EvX.weak (ls2 := [(2, v0), (0, v1), (0, v2), (0, v3), (0, v4), (0, iw (v5 + 1)), zJ]) (zwk_of ⟨Or.inr rfl, Or.inr rfl, Or.inr rfl, Or.inr rfl, Or.inr rfl, Or.inr rfl, Or.inl rfl, trivial⟩) h
  · have h := h.2 hc
    refine EvX.blk (pc' := 31) [(.iload 4, 0, 0)] (by decide +kernel) trivial ?_
    show Ev (d + 1) M_Mo_isParity 0 0 31 [(2, v0), (0, v1), (0, v2), (0, v3), (0, v4), (0, v5), (0, v6)] [(0, v4)] kd m3 (zqI kd q)
    refine EvX.if_eq (off := 36) (tgt := 67) (by decide +kernel) (by decide) (fun hc => ?_) (fun hc => ?_)
    · have h := h.1 hc
      refine EvX.blk (pc' := 73) [(.iconst 0, 0, 0), (.istore 4, 0, 0), (.iinc 6 1, 0, 0)] (by decide +kernel) trivial ?_
      show Ev (d + 1) M_Mo_isParity 0 0 73 [(2, v0), (0, v1), (0, v2), (0, v3), (0, 0), (0, v5), (0, iw (v6 + 1))] [] kd m3 (zqI kd q)
      refine EvX.goto (off := (-54)) (tgt := 19) (by decide +kernel) (by decide) ?_
      exact h
    · have h := h.2 hc
      refine EvX.blk (pc' := 41) [(.aload_n 0, 0, 0), (.iload_n 1, 0, 0), (.iload_n 2, 0, 0), (.iload 5, 0, 0), (.iload 6, 0, 0)] (by decide +kernel) trivial ?_
      show Ev (d + 1) M_Mo_isParity 0 0 41 [(2, v0), (0, v1), (0, v2), (0, v3), (0, v4), (0, v5), (0, v6)] [(0, v6), (0, v5), (0, v2), (0, v1), (2, v0)] kd m3 (zqI kd q)
      obtain ⟨ov, h⟩ := h
      obtain ⟨q4, hq, h⟩ := h
      refine EvX.callV (c := 8) (mc := 0) (ms := 0) (as := [(0, v1), (0, v2), (0, v5), (0, v6)]) (st := []) (by decide +kernel) l_Mo_197 k_Mo_isWin v_Mo_isWin a_Mo_isWin (by decide) (Nat.le_of_ble_eq_true rfl) rfl ov hq (fun r kd1 m6 hr => ?_)
      obtain ⟨x5, rfl, hk, hr⟩ := hr
      subst kd1
      have h := h x5 m6 hr
      show Ev (d + 1) M_Mo_isParity 0 0 44 [(2, v0), (0, v1), (0, v2), (0, v3), (0, v4), (0, v5), (0, v6)] [(0, x5)] kd m6 (zqI kd q)
      refine EvX.blk (pc' := 52) [(.iload 5, 0, 0), (.iload 6, 0, 0), (.iadd, 0, 0), (.iconst 2, 0, 0), (.irem, 0, 0), (.iload_n 3, 0, 0)] (by decide +kernel) trivial ⟨by decide, ?_⟩
      show Ev (d + 1) M_Mo_isParity 0 0 52 [(2, v0), (0, v1), (0, v2), (0, v3), (0, v4), (0, v5), (0, v6)] [(0, v3), (0, Int.tmod (iw (v5 + v6)) 2), (0, x5)] kd m6 (zqI kd q)
      refine EvX.icmp_ne (off := 7) (tgt := 59) (by decide +kernel) (by decide) (fun hc => ?_) (fun hc => ?_)
      · have h := h.1 hc
        refine EvX.blk (pc' := 60) [(.iconst 0, 0, 0)] (by decide +kernel) trivial ?_
        show Ev (d + 1) M_Mo_isParity 0 0 60 [(2, v0), (0, v1), (0, v2), (0, v3), (0, v4), (0, v5), (0, v6)] [(0, 0), (0, x5)] kd m6 (zqI kd q)
        exact EvX.weak (ls2 := [(2, v0), (0, v1), (0, v2), (0, v3), zJ, (0, v5), (0, v6)]) (zwk_of ⟨Or.inr rfl, Or.inr rfl, Or.inr rfl, Or.inr rfl, Or.inl rfl, Or.inr rfl, Or.inr rfl, trivial⟩) h
      · have h := h.2 hc
        refine EvX.blk (pc' := 56) [(.iconst 1, 0, 0)] (by decide +kernel) trivial ?_
        show Ev (d + 1) M_Mo_isParity 0 0 56 [(2, v0), (0, v1), (0, v2), (0, v3), (0, v4), (0, v5), (0, v6)] [(0, 1), (0, x5)] kd m6 (zqI kd q)
        refine EvX.goto (off := 4) (tgt := 60) (by decide +kernel) (by decide) ?_
        exact EvX.weak (ls2 := [(2, v0), (0, v1), (0, v2), (0, v3), zJ, (0, v5), (0, v6)]) (zwk_of ⟨Or.inr rfl, Or.inr rfl, Or.inr rfl, Or.inr rfl, Or.inl rfl, Or.inr rfl, Or.inr rfl, trivial⟩) h
set_option maxRecDepth 20000 in
set_option maxHeartbeats 1000000 in
theorem T_Mo_isParity_60 {d : Nat} {kd : ZK} {m : ZM} {q : Int → ZM → Prop} {v0 v1 v2 v3 v5 v6 s0 s1 : Int} (h : ((s0 ≠ s1 → (Ev (d + 1) M_Mo_isParity 0 0 19 [(2, v0), (0, v1), (0, v2), (0, v3), (0, 0), (0, v5), (0, iw (v6 + 1))] [] kd m (zqI kd q))) ∧ (¬ s0 ≠ s1 → (Ev (d + 1) M_Mo_isParity 0 0 19 [(2, v0), (0, v1), (0, v2), (0, v3), (0, 1), (0, v5), (0, iw (v6 + 1))] [] kd m (zqI kd q))))) : Ev (d + 1) M_Mo_isParity 0 0 60 [(2, v0), (0, v1), (0, v2), (0, v3), zJ, (0, v5), (0, v6)] [(0, s1), (0, s0)] kd m (zqI kd q) := by
  refine EvX.icmp_ne (off := 7) (tgt := 67) (by decide +kernel) (by decide) (fun hc => ?_) (fun hc => ?_)
  · have h := h.1 hc
    refine EvX.blk (pc' := 73) [(.iconst 0, 0, 0), (.istore 4, 0, 0), (.iinc 6 1, 0, 0)] (by decide +kernel) trivial ?_
    show Ev (d + 1) M_Mo_isParity 0 0 73 [(2, v0), (0, v1), (0, v2), (0, v3), (0, 0), (0, v5), (0, iw (v6 + 1))] [] kd m (zqI kd q)
    refine EvX.goto (off := (-54)) (tgt := 19) (by decide +kernel) (by decide) ?_
    exact h
  · have h := h.2 hc
    refine EvX.blk (pc' := 64) [(.iconst 1, 0, 0)] (by decide +kernel) trivial ?_
    show Ev (d + 1) M_Mo_isParity 0 0 64 [(2, v0), (0, v1), (0, v2), (0, v3), zJ, (0, v5), (0, v6)] [(0, 1)] kd m (zqI kd q)
    refine EvX.goto (off := 4) (tgt := 68) (by decide +kernel) (by decide) ?_
    refine EvX.blk (pc' := 73) [(.istore 4, 0, 0), (.iinc 6 1, 0, 0)] (by decide +kernel) trivial ?_
    show Ev (d + 1) M_Mo_isParity 0 0 73 [(2, v0), (0, v1), (0, v2), (0, v3), (0, 1), (0, v5), (0, iw (v6 + 1))] [] kd m (zqI kd q)
    refine EvX.goto (off := (-54)) (tgt := 19) (by decide +kernel) (by decide) ?_
    exact h
set_option maxRecDepth 20000 in
set_option maxHeartbeats 1000000 in
theorem T_Mo_parity_0 {d : Nat} {kd : ZK} {m : ZM} {q : Int → ZM → Prop} {v0 v1 v2 v3 : Int} (h : (zobj kd v0 8 ∧ ∃ q1, CtI d M_Mo_areTwo [(2, v0), (0, v1), (0, v2)] kd m q1 ∧ ∀ x2 m3, q1 x2 m3 → ((x2 = 0 → q (-1) m3) ∧ (¬ x2 = 0 → (∃ q4, CtI d M_Mo_in [(1, v3), (1, 0), (1, 1)] kd m3 q4 ∧ ∀ x5 m6, q4 x5 m6 → ((x5 ≠ 0 → (zobj kd v0 8 ∧ ∃ q7, CtI d M_Mo_isParity [(2, v0), (0, v1), (0, v2), (0, v3)] kd m6 q7 ∧ ∀ x8 m9, q7 x8 m9 → ((x8 = 0 → (zobj kd v0 8 ∧ ∃ q10, CtV d M_Mo_keepsPast [(2, v0)] kd m9 q10 ∧ ∀ m12, q10 m12 → (Ev (d + 1) M_Mo_parity 0 0 41 [(2, v0), (0, v1), (0, v2), (0, v3), (0, 0), zJ] [] kd m12 (zqI kd q)))) ∧ (¬ x8 = 0 → q (-2) m9)))) ∧ (¬ x5 ≠ 0 → q (-1) m6))))))) : Ev (d + 1) M_Mo_parity 0 0 0 [(2, v0), (0, v1), (0, v2), (0, v3), zJ, zJ] [] kd m (zqI kd q) := by
  refine EvX.blk (pc' := 3) [(.aload_n 0, 0, 0), (.iload_n 1, 0, 0), (.iload_n 2, 0, 0)] (by decide +kernel) trivial ?_
  show Ev (d + 1) M_Mo_parity 0 0 3 [(2, v0), (0, v1), (0, v2), (0, v3), zJ, zJ] [(0, v2), (0, v1), (2, v0)] kd m (zqI kd q)
  obtain ⟨ov, h⟩ := h
  obtain ⟨q1, hq, h⟩ := h
  refine EvX.callV (c := 8) (mc := 0) (ms := 0) (as := [(0, v1), (0, v2)]) (st := []) (by decide +kernel) l_Mo_174 k_Mo_areTwo v_Mo_areTwo a_Mo_areTwo (by decide) (Nat.le_of_ble_eq_true rfl) rfl ov hq (fun r kd1 m3 hr => ?_)
  obtain ⟨x2, rfl, hk, hr⟩ := hr
  subst kd1
  have h := h x2 m3 hr
  show Ev (d + 1) M_Mo_parity 0 0 6 [(2, v0), (0, v1), (0, v2), (0, v3), zJ, zJ] [(0, x2)] kd m3 (zqI kd q)
  refine EvX.if_eq (off := 13) (tgt := 19) (by decide +kernel) (by decide) (fun hc => ?_) (fun hc => ?_)
  · have h := h.1 hc
    refine EvX.blk (pc' := 20) [(.iconst (-1), 0, 0)] (by decide +kernel) trivial ?_
    show Ev (d + 1) M_Mo_parity 0 0 20 [(2, v0), (0, v1), (0, v2), (0, v3), zJ, zJ] [(0, (-1))] kd m3 (zqI kd q)
    exact EvX.ret (r := (0, (-1))) (by decide +kernel) rfl ⟨_, rfl, rfl, h⟩
  · have h := h.2 hc
    refine EvX.blk (pc' := 13) [(.iload_n 3, 0, 0), (.i2l, 0, 0), (.lconst 0, 0, 0), (.lconst 1, 0, 0)] (by decide +kernel) trivial ?_
    show Ev (d + 1) M_Mo_parity 0 0 13 [(2, v0), (0, v1), (0, v2), (0, v3), zJ, zJ] [(1, 1), (1, 0), (1, v3)] kd m3 (zqI kd q)
    obtain ⟨q4, hq, h⟩ := h
    refine EvX.callS (mc := 0) (ms := 0) (as := [(1, v3), (1, 0), (1, 1)]) (st := []) (by decide +kernel) l_Mo_93 k_Mo_in s_Mo_in a_Mo_in (by decide) (Nat.le_of_ble_eq_true rfl) hq (fun r kd1 m6 hr => ?_)
    obtain ⟨x5, rfl, hk, hr⟩ := hr
    subst kd1
    have h := h x5 m6 hr
    show Ev (d + 1) M_Mo_parity 0 0 16 [(2, v0), (0, v1), (0, v2), (0, v3), zJ, zJ] [(0, x5)] kd m6 (zqI kd q)
    refine EvX.if_ne (off := 5) (tgt := 21) (by decide +kernel) (by decide) (fun hc => ?_) (fun hc => ?_)
    · have h := h.1 hc
      refine EvX.blk (pc' := 25) [(.aload_n 0, 0, 0), (.iload_n 1, 0, 0), (.iload_n 2, 0, 0), (.iload_n 3, 0, 0)] (by decide +kernel) trivial ?_
      show Ev (d + 1) M_Mo_parity 0 0 25 [(2, v0), (0, v1), (0, v2), (0, v3), zJ, zJ] [(0, v3), (0, v2), (0, v1), (2, v0)] kd m6 (zqI kd q)
      obtain ⟨ov, h⟩ := h
      obtain ⟨q7, hq, h⟩ := h
      refine EvX.callV (c := 8) (mc := 0) (ms := 0) (as := [(0, v1), (0, v2), (0, v3)]) (st := []) (by decide +kernel) l_Mo_200 k_Mo_isParity v_Mo_isParity a_Mo_isParity (by decide) (Nat.le_of_ble_eq_true rfl) rfl ov hq (fun r kd1 m9 hr => ?_)
      obtain ⟨x8, rfl, hk, hr⟩ := hr
      subst kd1
      have h := h x8 m9 hr
      show Ev (d + 1) M_Mo_parity 0 0 28 [(2, v0), (0, v1), (0, v2), (0, v3), zJ, zJ] [(0, x8)] kd m9 (zqI kd q)
      refine EvX.if_eq (off := 6) (tgt := 34) (by decide +kernel) (by decide) (fun hc => ?_) (fun hc => ?_)
      · have h := h.1 hc
        refine EvX.blk (pc' := 35) [(.aload_n 0, 0, 0)] (by decide +kernel) trivial ?_
        show Ev (d + 1) M_Mo_parity 0 0 35 [(2, v0), (0, v1), (0, v2), (0, v3), zJ, zJ] [(2, v0)] kd m9 (zqI kd q)
        obtain ⟨ov, h⟩ := h
        obtain ⟨q10, hq, h⟩ := h
        refine EvX.callV (c := 8) (mc := 0) (ms := 0) (as := []) (st := []) (by decide +kernel) l_Mo_183 k_Mo_keepsPast v_Mo_keepsPast a_Mo_keepsPast (by decide) (Nat.le_of_ble_eq_true rfl) rfl ov hq (fun r kd1 m12 hr => ?_)
        obtain ⟨rfl, hk, hr⟩ := hr
        subst kd1
        have h := h m12 hr
        show Ev (d + 1) M_Mo_parity 0 0 38 [(2, v0), (0, v1), (0, v2), (0, v3), zJ, zJ] [] kd m12 (zqI kd q)
        refine EvX.blk (pc' := 41) [(.iconst 0, 0, 0), (.istore 4, 0, 0)] (by decide +kernel) trivial ?_
        show Ev (d + 1) M_Mo_parity 0 0 41 [(2, v0), (0, v1), (0, v2), (0, v3), (0, 0), zJ] [] kd m12 (zqI kd q)
        exact h
      · have h := h.2 hc
        refine EvX.blk (pc' := 33) [(.bipush (-2), 0, 0)] (by decide +kernel) trivial ?_
        show Ev (d + 1) M_Mo_parity 0 0 33 [(2, v0), (0, v1), (0, v2), (0, v3), zJ, zJ] [(0, (-2))] kd m9 (zqI kd q)
        exact EvX.ret (r := (0, (-2))) (by decide +kernel) rfl ⟨_, rfl, rfl, h⟩
    · have h := h.2 hc
      refine EvX.blk (pc' := 20) [(.iconst (-1), 0, 0)] (by decide +kernel) trivial ?_
      show Ev (d + 1) M_Mo_parity 0 0 20 [(2, v0), (0, v1), (0, v2), (0, v3), zJ, zJ] [(0, (-1))] kd m6 (zqI kd q)
      exact EvX.ret (r := (0, (-1))) (by decide +kernel) rfl ⟨_, rfl, rfl, h⟩
theorem S_Mo_parity {d : Nat} {kd : ZK} {m : ZM} {q : Int → ZM → Prop} {v0 v1 v2 v3 : Int} (h : (zobj kd v0 8 ∧ ∃ q1, CtI d M_Mo_areTwo [(2, v0), (0, v1), (0, v2)] kd m q1 ∧ ∀ x2 m3, q1 x2 m3 → ((x2 = 0 → q (-1) m3) ∧ (¬ x2 = 0 → (∃ q4, CtI d M_Mo_in [(1, v3), (1, 0), (1, 1)] kd m3 q4 ∧ ∀ x5 m6, q4 x5 m6 → ((x5 ≠ 0 → (zobj kd v0 8 ∧ ∃ q7, CtI d M_Mo_isParity [(2, v0), (0, v1), (0, v2), (0, v3)] kd m6 q7 ∧ ∀ x8 m9, q7 x8 m9 → ((x8 = 0 → (zobj kd v0 8 ∧ ∃ q10, CtV d M_Mo_keepsPast [(2, v0)] kd m9 q10 ∧ ∀ m12, q10 m12 → (Ev (d + 1) M_Mo_parity 0 0 41 [(2, v0), (0, v1), (0, v2), (0, v3), (0, 0), zJ] [] kd m12 (zqI kd q)))) ∧ (¬ x8 = 0 → q (-2) m9)))) ∧ (¬ x5 ≠ 0 → q (-1) m6))))))) : CtI (d + 1) M_Mo_parity [(2, v0), (0, v1), (0, v2), (0, v3)] kd m q :=
  Ct.start k_Mo_parity (Nat.le_of_ble_eq_true rfl) ⟨1, Or.inr (Or.inl ⟨rfl, rfl⟩)⟩ (T_Mo_parity_0 h)
set_option maxRecDepth 20000 in
set_option maxHeartbeats 1000000 in
theorem T_Mo_parity_41 {d : Nat} {kd : ZK} {m : ZM} {q : Int → ZM → Prop} {v0 v1 v2 v3 v4 : Int} (h : (zobj kd v0 8 ∧ ∃ q1, CtI d M_Mo_answers [(2, v0), (0, 0)] kd m q1 ∧ ∀ x2 m3, q1 x2 m3 → ((x2 ≤ v4 → q 1 m3) ∧ (¬ x2 ≤ v4 → (Ev (d + 1) M_Mo_parity 0 0 54 [(2, v0), (0, v1), (0, v2), (0, v3), (0, v4), (0, 0)] [] kd m3 (zqI kd q)))))) : Ev (d + 1) M_Mo_parity 0 0 41 [(2, v0), (0, v1), (0, v2), (0, v3), (0, v4), zJ] [] kd m (zqI kd q) := by
  refine EvX.blk (pc' := 45) [(.iload 4, 0, 0), (.aload_n 0, 0, 0), (.iconst 0, 0, 0)] (by decide +kernel) trivial ?_
  show Ev (d + 1) M_Mo_parity 0 0 45 [(2, v0), (0, v1), (0, v2), (0, v3), (0, v4), zJ] [(0, 0), (2, v0), (0, v4)] kd m (zqI kd q)
  obtain ⟨ov, h⟩ := h
  obtain ⟨q1, hq, h⟩ := h
  refine EvX.callV (c := 8) (mc := 0) (ms := 0) (as := [(0, 0)]) (st := [(0, v4)]) (by decide +kernel) l_Mo_167 k_Mo_answers v_Mo_answers a_Mo_answers (by decide) (Nat.le_of_ble_eq_true rfl) rfl ov hq (fun r kd1 m3 hr => ?_)
  obtain ⟨x2, rfl, hk, hr⟩ := hr
  subst kd1
  have h := h x2 m3 hr
  show Ev (d + 1) M_Mo_parity 0 0 48 [(2, v0), (0, v1), (0, v2), (0, v3), (0, v4), zJ] [(0, x2), (0, v4)] kd m3 (zqI kd q)
  refine EvX.icmp_ge (off := 64) (tgt := 112) (by decide +kernel) (by decide) (fun hc => ?_) (fun hc => ?_)
  · have h := h.1 hc
    refine EvX.blk (pc' := 113) [(.iconst 1, 0, 0)] (by decide +kernel) trivial ?_
    show Ev (d + 1) M_Mo_parity 0 0 113 [(2, v0), (0, v1), (0, v2), (0, v3), (0, v4), zJ] [(0, 1)] kd m3 (zqI kd q)
    exact EvX.ret (r := (0, 1)) (by decide +kernel) rfl ⟨_, rfl, rfl, h⟩
  · have h := h.2 hc
    refine EvX.blk (pc' := 54) [(.iconst 0, 0, 0), (.istore 5, 0, 0)] (by decide +kernel) trivial ?_
    show Ev (d + 1) M_Mo_parity 0 0 54 [(2, v0), (0, v1), (0, v2), (0, v3), (0, v4), (0, 0)] [] kd m3 (zqI kd q)
    exact h
set_option maxRecDepth 20000 in
set_option maxHeartbeats 1000000 in
theorem T_Mo_parity_54 {d : Nat} {kd : ZK} {m : ZM} {q : Int → ZM → Prop} {v0 v1 v2 v3 v4 v5 : Int} (h : (zobj kd v0 8 ∧ ∃ q1, CtI d M_Mo_answers [(2, v0), (0, 1)] kd m q1 ∧ ∀ x2 m3, q1 x2 m3 → ((x2 ≤ v5 → (Ev (d + 1) M_Mo_parity 0 0 41 [(2, v0), (0, v1), (0, v2), (0, v3), (0, iw (v4 + 1)), zJ] [] kd m3 (zqI kd q))) ∧ (¬ x2 ≤ v5 → (zobj kd v0 8 ∧ (∃ q4, CtI d M_Mo_fourOf [(0, v1), (0, v2), (0, v4), (0, v5)] kd m3 q4 ∧ ∀ x5 m6, q4 x5 m6 → (((Int.tmod (iw (v4 + v5)) 2) ≠ v3 → (∃ q7, CtI d M_Mo_truth [(0, 0)] kd m6 q7 ∧ ∀ x8 m9, q7 x8 m9 → (zIn kd (m3 v0 0) 0 (iw (29 + x5)) ∧ (Ev (d + 1) M_Mo_parity 0 0 54 [(2, v0), (0, v1), (0, v2), (0, v3), (0, v4), (0, iw (v5 + 1))] [] kd (zup m9 (m3 v0 0) (iw (29 + x5)) x8) (zqI kd q))))) ∧ (¬ (Int.tmod (iw (v4 + v5)) 2) ≠ v3 → (∃ q10, CtI d M_Mo_truth [(0, 1)] kd m6 q10 ∧ ∀ x11 m12, q10 x11 m12 → (zIn kd (m3 v0 0) 0 (iw (29 + x5)) ∧ (Ev (d + 1) M_Mo_parity 0 0 54 [(2, v0), (0, v1), (0, v2), (0, v3), (0, v4), (0, iw (v5 + 1))] [] kd (zup m12 (m3 v0 0) (iw (29 + x5)) x11) (zqI kd q)))))))))))) : Ev (d + 1) M_Mo_parity 0 0 54 [(2, v0), (0, v1), (0, v2), (0, v3), (0, v4), (0, v5)] [] kd m (zqI kd q) := by
  refine EvX.blk (pc' := 58) [(.iload 5, 0, 0), (.aload_n 0, 0, 0), (.iconst 1, 0, 0)] (by decide +kernel) trivial ?_
  show Ev (d + 1) M_Mo_parity 0 0 58 [(2, v0), (0, v1), (0, v2), (0, v3), (0, v4), (0, v5)] [(0, 1), (2, v0), (0, v5)] kd m (zqI kd q)
  obtain ⟨ov, h⟩ := h
  obtain ⟨q1, hq, h⟩ := h
  refine EvX.callV (c := 8) (mc := 0) (ms := 0) (as := [(0, 1)]) (st := [(0, v5)]) (by decide +kernel) l_Mo_167 k_Mo_answers v_Mo_answers a_Mo_answers (by decide) (Nat.le_of_ble_eq_true rfl) rfl ov hq (fun r kd1 m3 hr => ?_)
  obtain ⟨x2, rfl, hk, hr⟩ := hr
  subst kd1
  have h := h x2 m3 hr
  show Ev (d + 1) M_Mo_parity 0 0 61 [(2, v0), (0, v1), (0, v2), (0, v3), (0, v4), (0, v5)] [(0, x2), (0, v5)] kd m3 (zqI kd q)
  refine EvX.icmp_ge (off := 45) (tgt := 106) (by decide +kernel) (by decide) (fun hc => ?_) (fun hc => ?_)
  · have h := h.1 hc
    refine EvX.blk (pc' := 109) [(.iinc 4 1, 0, 0)] (by decide +kernel) trivial ?_
    show Ev (d + 1) M_Mo_parity 0 0 109 [(2, v0), (0, v1), (0, v2), (0, v3), (0, iw (v4 + 1)), (0, v5)] [] kd m3 (zqI kd q)
    refine EvX.goto (off := (-68)) (tgt := 41) (by decide +kernel) (by decide) ?_
    exact EvX.weak (ls2 := [(2, v0), (0, v1), (0, v2), (0, v3), (0, iw (v4 + 1)), zJ]) (zwk_of ⟨Or.inr rfl, Or.inr rfl, Or.inr rfl, Or.inr rfl, Or.inr rfl, Or.inl rfl, trivial⟩) h
  · have h := h.2 hc
    obtain ⟨o1, h⟩ := h
    refine EvX.blk (pc' := 76) [(.aload_n 0, 0, 0), (.getfield 9, 8, 0), (.bipush 29, 0, 0), (.iload_n 1, 0, 0), (.iload_n 2, 0, 0), (.iload 4, 0, 0), (.iload 5, 0, 0)] (by decide +kernel) ⟨g_Mo_9, trivial⟩ ⟨o1, ?_⟩
    show Ev (d + 1) M_Mo_parity 0 0 76 [(2, v0), (0, v1), (0, v2), (0, v3), (0, v4), (0, v5)] [(0, v5), (0, v4), (0, v2), (0, v1), (0, 29), (2, m3 v0 0)] kd m3 (zqI kd q)
    obtain ⟨q4, hq, h⟩ := h
    refine EvX.callS (mc := 0) (ms := 0) (as := [(0, v1), (0, v2), (0, v4), (0, v5)]) (st := [(0, 29), (2, m3 v0 0)]) (by decide +kernel) l_Mo_122 k_Mo_fourOf s_Mo_fourOf a_Mo_fourOf (by decide) (Nat.le_of_ble_eq_true rfl) hq (fun r kd1 m6 hr => ?_)
    obtain ⟨x5, rfl, hk, hr⟩ := hr
    subst kd1
    have h := h x5 m6 hr
    show Ev (d + 1) M_Mo_parity 0 0 79 [(2, v0), (0, v1), (0, v2), (0, v3), (0, v4), (0, v5)] [(0, x5), (0, 29), (2, m3 v0 0)] kd m6 (zqI kd q)
    refine EvX.blk (pc' := 88) [(.iadd, 0, 0), (.iload 4, 0, 0), (.iload 5, 0, 0), (.iadd, 0, 0), (.iconst 2, 0, 0), (.irem, 0, 0), (.iload_n 3, 0, 0)] (by decide +kernel) trivial ⟨by decide, ?_⟩
    show Ev (d + 1) M_Mo_parity 0 0 88 [(2, v0), (0, v1), (0, v2), (0, v3), (0, v4), (0, v5)] [(0, v3), (0, Int.tmod (iw (v4 + v5)) 2), (0, iw (29 + x5)), (2, m3 v0 0)] kd m6 (zqI kd q)
    refine EvX.icmp_ne (off := 7) (tgt := 95) (by decide +kernel) (by decide) (fun hc => ?_) (fun hc => ?_)
    · have h := h.1 hc
      refine EvX.blk (pc' := 96) [(.iconst 0, 0, 0)] (by decide +kernel) trivial ?_
      show Ev (d + 1) M_Mo_parity 0 0 96 [(2, v0), (0, v1), (0, v2), (0, v3), (0, v4), (0, v5)] [(0, 0), (0, iw (29 + x5)), (2, m3 v0 0)] kd m6 (zqI kd q)
      obtain ⟨q7, hq, h⟩ := h
      refine EvX.callS (mc := 0) (ms := 0) (as := [(0, 0)]) (st := [(0, iw (29 + x5)), (2, m3 v0 0)]) (by decide +kernel) l_Mo_204 k_Mo_truth s_Mo_truth a_Mo_truth (by decide) (Nat.le_of_ble_eq_true rfl) hq (fun r kd1 m9 hr => ?_)
      obtain ⟨x8, rfl, hk, hr⟩ := hr
      subst kd1
      have h := h x8 m9 hr
      show Ev (d + 1) M_Mo_parity 0 0 99 [(2, v0), (0, v1), (0, v2), (0, v3), (0, v4), (0, v5)] [(0, x8), (0, iw (29 + x5)), (2, m3 v0 0)] kd m9 (zqI kd q)
      obtain ⟨o1, h⟩ := h
      refine EvX.blk (pc' := 103) [(.iastore, 0, 0), (.iinc 5 1, 0, 0)] (by decide +kernel) trivial ⟨o1, ?_⟩
      show Ev (d + 1) M_Mo_parity 0 0 103 [(2, v0), (0, v1), (0, v2), (0, v3), (0, v4), (0, iw (v5 + 1))] [] kd (zup m9 (m3 v0 0) (iw (29 + x5)) x8) (zqI kd q)
      refine EvX.goto (off := (-49)) (tgt := 54) (by decide +kernel) (by decide) ?_
      exact h
    · have h := h.2 hc
      refine EvX.blk (pc' := 92) [(.iconst 1, 0, 0)] (by decide +kernel) trivial ?_
      show Ev (d + 1) M_Mo_parity 0 0 92 [(2, v0), (0, v1), (0, v2), (0, v3), (0, v4), (0, v5)] [(0, 1), (0, iw (29 + x5)), (2, m3 v0 0)] kd m6 (zqI kd q)
      refine EvX.goto (off := 4) (tgt := 96) (by decide +kernel) (by decide) ?_
      obtain ⟨q10, hq, h⟩ := h
      refine EvX.callS (mc := 0) (ms := 0) (as := [(0, 1)]) (st := [(0, iw (29 + x5)), (2, m3 v0 0)]) (by decide +kernel) l_Mo_204 k_Mo_truth s_Mo_truth a_Mo_truth (by decide) (Nat.le_of_ble_eq_true rfl) hq (fun r kd1 m12 hr => ?_)
      obtain ⟨x11, rfl, hk, hr⟩ := hr
      subst kd1
      have h := h x11 m12 hr
      show Ev (d + 1) M_Mo_parity 0 0 99 [(2, v0), (0, v1), (0, v2), (0, v3), (0, v4), (0, v5)] [(0, x11), (0, iw (29 + x5)), (2, m3 v0 0)] kd m12 (zqI kd q)
      obtain ⟨o1, h⟩ := h
      refine EvX.blk (pc' := 103) [(.iastore, 0, 0), (.iinc 5 1, 0, 0)] (by decide +kernel) trivial ⟨o1, ?_⟩
      show Ev (d + 1) M_Mo_parity 0 0 103 [(2, v0), (0, v1), (0, v2), (0, v3), (0, v4), (0, iw (v5 + 1))] [] kd (zup m12 (m3 v0 0) (iw (29 + x5)) x11) (zqI kd q)
      refine EvX.goto (off := (-49)) (tgt := 54) (by decide +kernel) (by decide) ?_
      exact h
