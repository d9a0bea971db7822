/-! TREES of ApartGamesModel, 2: by program -/
set_option maxRecDepth 20000 in
set_option maxHeartbeats 1000000 in
theorem T_Mo_exchanges_0 {d : Nat} {kd : ZK} {m : ZM} {q : ZM → Prop} {v0 v1 v2 : Int} (h : (zobj kd v0 8 ∧ zIn kd (m v0 0) 0 v1 ∧ zobj kd v0 8 ∧ zobj kd v0 8 ∧ zIn kd (m v0 0) 0 v2 ∧ zIn kd (m v0 0) 0 v1 ∧ zobj kd v0 8 ∧ zIn kd ((zup m (m v0 0) v1 (m (m v0 0) v2)) v0 0) 0 v2 ∧ q (zup (zup m (m v0 0) v1 (m (m v0 0) v2)) ((zup m (m v0 0) v1 (m (m v0 0) v2)) v0 0) v2 (m (m v0 0) v1)))) : Ev (d + 1) M_Mo_exchanges 0 0 0 [(2, v0), (0, v1), (0, v2), zJ] [] kd m (zqV kd q) := by
  obtain ⟨o1, o2, o3, o4, o5, o6, o7, o8, h⟩ := h
  refine EvX.blk (pc' := 26) [(.aload_n 0, 0, 0), (.getfield 9, 8, 0), (.iload_n 1, 0, 0), (.iaload, 0, 0), (.istore_n 3, 0, 0), (.aload_n 0, 0, 0), (.getfield 9, 8, 0), (.iload_n 1, 0, 0), (.aload_n 0, 0, 0), (.getfield 9, 8, 0), (.iload_n 2, 0, 0), (.iaload, 0, 0), (.iastore, 0, 0), (.aload_n 0, 0, 0), (.getfield 9, 8, 0), (.iload_n 2, 0, 0), (.iload_n 3, 0, 0), (.iastore, 0, 0)] (by decide +kernel) ⟨g_Mo_9, g_Mo_9, g_Mo_9, g_Mo_9, trivial⟩ ⟨o1, o2, o3, o4, o5, o6, o7, o8, ?_⟩
  show Ev (d + 1) M_Mo_exchanges 0 0 26 [(2, v0), (0, v1), (0, v2), (0, m (m v0 0) v1)] [] kd (zup (zup m (m v0 0) v1 (m (m v0 0) v2)) ((zup m (m v0 0) v1 (m (m v0 0) v2)) v0 0) v2 (m (m v0 0) v1)) (zqV kd q)
  exact EvX.ret (r := zJ) (by decide +kernel) rfl ⟨rfl, rfl, h⟩
theorem S_Mo_exchanges {d : Nat} {kd : ZK} {m : ZM} {q : ZM → Prop} {v0 v1 v2 : Int} (h : (zobj kd v0 8 ∧ zIn kd (m v0 0) 0 v1 ∧ zobj kd v0 8 ∧ zobj kd v0 8 ∧ zIn kd (m v0 0) 0 v2 ∧ zIn kd (m v0 0) 0 v1 ∧ zobj kd v0 8 ∧ zIn kd ((zup m (m v0 0) v1 (m (m v0 0) v2)) v0 0) 0 v2 ∧ q (zup (zup m (m v0 0) v1 (m (m v0 0) v2)) ((zup m (m v0 0) v1 (m (m v0 0) v2)) v0 0) v2 (m (m v0 0) v1)))) : CtV (d + 1) M_Mo_exchanges [(2, v0), (0, v1), (0, v2)] kd m q :=
  Ct.start k_Mo_exchanges (Nat.le_of_ble_eq_true rfl) ⟨0, Or.inl ⟨rfl, rfl⟩⟩ (T_Mo_exchanges_0 h)
set_option maxRecDepth 20000 in
set_option maxHeartbeats 1000000 in
theorem T_Mo_exchange_0 {d : Nat} {kd : ZK} {m : ZM} {q : Int → ZM → Prop} {v0 v1 v2 v3 v4 : Int} (h : (∃ q1, CtI d M_Mo_isPlayer [(0, v1)] kd m q1 ∧ ∀ x2 m3, q1 x2 m3 → ((x2 = 0 → q (-1) m3) ∧ (¬ x2 = 0 → (zobj kd v0 8 ∧ ∃ q4, CtI d M_Mo_isQuestion [(2, v0), (0, v1), (0, v2)] kd m3 q4 ∧ ∀ x5 m6, q4 x5 m6 → ((x5 = 0 → q (-1) m6) ∧ (¬ x5 = 0 → (zobj kd v0 8 ∧ ∃ q7, CtI d M_Mo_isAnswer [(2, v0), (0, v1), (0, v3)] kd m6 q7 ∧ ∀ x8 m9, q7 x8 m9 → ((x8 = 0 → q (-1) m9) ∧ (¬ x8 = 0 → (zobj kd v0 8 ∧ ∃ q10, CtI d M_Mo_isAnswer [(2, v0), (0, v1), (0, v4)] kd m9 q10 ∧ ∀ x11 m12, q10 x11 m12 → ((x11 = 0 → q (-1) m12) ∧ (¬ x11 = 0 → ((v3 ≠ v4 → (zobj kd v0 8 ∧ ∃ q13, CtV d M_Mo_keepsPast [(2, v0)] kd m12 q13 ∧ ∀ m15, q13 m15 → (Ev (d + 1) M_Mo_exchange 0 0 50 [(2, v0), (0, v1), (0, v2), (0, v3), (0, v4), (0, 0), zJ, zJ, zJ] [] kd m15 (zqI kd q)))) ∧ (¬ v3 ≠ v4 → q (-1) m12))))))))))))))) : Ev (d + 1) M_Mo_exchange 0 0 0 [(2, v0), (0, v1), (0, v2), (0, v3), (0, v4), zJ, zJ, zJ, zJ] [] kd m (zqI kd q) := by
  refine EvX.blk (pc' := 1) [(.iload_n 1, 0, 0)] (by decide +kernel) trivial ?_
  show Ev (d + 1) M_Mo_exchange 0 0 1 [(2, v0), (0, v1), (0, v2), (0, v3), (0, v4), zJ, zJ, zJ, zJ] [(0, v1)] kd m (zqI kd q)
  obtain ⟨q1, hq, h⟩ := h
  refine EvX.callS (mc := 0) (ms := 0) (as := [(0, v1)]) (st := []) (by decide +kernel) l_Mo_208 k_Mo_isPlayer s_Mo_isPlayer a_Mo_isPlayer (by decide) (Nat.le_of_ble_eq_true rfl) hq (fun r kd1 m3 hr => ?_)
  obtain ⟨x2, rfl, hk, hr⟩ := hr
  subst kd1
  have h := h x2 m3 hr
  show Ev (d + 1) M_Mo_exchange 0 0 4 [(2, v0), (0, v1), (0, v2), (0, v3), (0, v4), zJ, zJ, zJ, zJ] [(0, x2)] kd m3 (zqI kd q)
  refine EvX.if_eq (off := 37) (tgt := 41) (by decide +kernel) (by decide) (fun hc => ?_) (fun hc => ?_)
  · have h := h.1 hc
    refine EvX.blk (pc' := 42) [(.iconst (-1), 0, 0)] (by decide +kernel) trivial ?_
    show Ev (d + 1) M_Mo_exchange 0 0 42 [(2, v0), (0, v1), (0, v2), (0, v3), (0, v4), zJ, zJ, zJ, zJ] [(0, (-1))] kd m3 (zqI kd q)
    exact EvX.ret (r := (0, (-1))) (by decide +kernel) rfl ⟨_, rfl, rfl, h⟩
  · have h := h.2 hc
    refine EvX.blk (pc' := 10) [(.aload_n 0, 0, 0), (.iload_n 1, 0, 0), (.iload_n 2, 0, 0)] (by decide +kernel) trivial ?_
    show Ev (d + 1) M_Mo_exchange 0 0 10 [(2, v0), (0, v1), (0, v2), (0, v3), (0, v4), zJ, zJ, zJ, zJ] [(0, v2), (0, v1), (2, v0)] kd m3 (zqI kd q)
    obtain ⟨ov, h⟩ := h
    obtain ⟨q4, hq, h⟩ := h
    refine EvX.callV (c := 8) (mc := 0) (ms := 0) (as := [(0, v1), (0, v2)]) (st := []) (by decide +kernel) l_Mo_170 k_Mo_isQuestion v_Mo_isQuestion a_Mo_isQuestion (by decide) (Nat.le_of_ble_eq_true rfl) rfl ov hq (fun r kd1 m6 hr => ?_)
    obtain ⟨x5, rfl, hk, hr⟩ := hr
    subst kd1
    have h := h x5 m6 hr
    show Ev (d + 1) M_Mo_exchange 0 0 13 [(2, v0), (0, v1), (0, v2), (0, v3), (0, v4), zJ, zJ, zJ, zJ] [(0, x5)] kd m6 (zqI kd q)
    refine EvX.if_eq (off := 28) (tgt := 41) (by decide +kernel) (by decide) (fun hc => ?_) (fun hc => ?_)
    · have h := h.1 hc
      refine EvX.blk (pc' := 42) [(.iconst (-1), 0, 0)] (by decide +kernel) trivial ?_
      show Ev (d + 1) M_Mo_exchange 0 0 42 [(2, v0), (0, v1), (0, v2), (0, v3), (0, v4), zJ, zJ, zJ, zJ] [(0, (-1))] kd m6 (zqI kd q)
      exact EvX.ret (r := (0, (-1))) (by decide +kernel) rfl ⟨_, rfl, rfl, h⟩
    · have h := h.2 hc
      refine EvX.blk (pc' := 19) [(.aload_n 0, 0, 0), (.iload_n 1, 0, 0), (.iload_n 3, 0, 0)] (by decide +kernel) trivial ?_
      show Ev (d + 1) M_Mo_exchange 0 0 19 [(2, v0), (0, v1), (0, v2), (0, v3), (0, v4), zJ, zJ, zJ, zJ] [(0, v3), (0, v1), (2, v0)] kd m6 (zqI kd q)
      obtain ⟨ov, h⟩ := h
      obtain ⟨q7, hq, h⟩ := h
      refine EvX.callV (c := 8) (mc := 0) (ms := 0) (as := [(0, v1), (0, v3)]) (st := []) (by decide +kernel) l_Mo_177 k_Mo_isAnswer v_Mo_isAnswer a_Mo_isAnswer (by decide) (Nat.le_of_ble_eq_true rfl) rfl ov hq (fun r kd1 m9 hr => ?_)
      obtain ⟨x8, rfl, hk, hr⟩ := hr
      subst kd1
      have h := h x8 m9 hr
      show Ev (d + 1) M_Mo_exchange 0 0 22 [(2, v0), (0, v1), (0, v2), (0, v3), (0, v4), zJ, zJ, zJ, zJ] [(0, x8)] kd m9 (zqI kd q)
      refine EvX.if_eq (off := 19) (tgt := 41) (by decide +kernel) (by decide) (fun hc => ?_) (fun hc => ?_)
      · have h := h.1 hc
        refine EvX.blk (pc' := 42) [(.iconst (-1), 0, 0)] (by decide +kernel) trivial ?_
        show Ev (d + 1) M_Mo_exchange 0 0 42 [(2, v0), (0, v1), (0, v2), (0, v3), (0, v4), zJ, zJ, zJ, zJ] [(0, (-1))] kd m9 (zqI kd q)
        exact EvX.ret (r := (0, (-1))) (by decide +kernel) rfl ⟨_, rfl, rfl, h⟩
      · have h := h.2 hc
        refine EvX.blk (pc' := 29) [(.aload_n 0, 0, 0), (.iload_n 1, 0, 0), (.iload 4, 0, 0)] (by decide +kernel) trivial ?_
        show Ev (d + 1) M_Mo_exchange 0 0 29 [(2, v0), (0, v1), (0, v2), (0, v3), (0, v4), zJ, zJ, zJ, zJ] [(0, v4), (0, v1), (2, v0)] kd m9 (zqI kd q)
        obtain ⟨ov, h⟩ := h
        obtain ⟨q10, hq, h⟩ := h
        refine EvX.callV (c := 8) (mc := 0) (ms := 0) (as := [(0, v1), (0, v4)]) (st := []) (by decide +kernel) l_Mo_177 k_Mo_isAnswer v_Mo_isAnswer a_Mo_isAnswer (by decide) (Nat.le_of_ble_eq_true rfl) rfl ov hq (fun r kd1 m12 hr => ?_)
        obtain ⟨x11, rfl, hk, hr⟩ := hr
        subst kd1
        have h := h x11 m12 hr
        show Ev (d + 1) M_Mo_exchange 0 0 32 [(2, v0), (0, v1), (0, v2), (0, v3), (0, v4), zJ, zJ, zJ, zJ] [(0, x11)] kd m12 (zqI kd q)
        refine EvX.if_eq (off := 9) (tgt := 41) (by decide +kernel) (by decide) (fun hc => ?_) (fun hc => ?_)
        · have h := h.1 hc
          refine EvX.blk (pc' := 42) [(.iconst (-1), 0, 0)] (by decide +kernel) trivial ?_
          show Ev (d + 1) M_Mo_exchange 0 0 42 [(2, v0), (0, v1), (0, v2), (0, v3), (0, v4), zJ, zJ, zJ, zJ] [(0, (-1))] kd m12 (zqI kd q)
          exact EvX.ret (r := (0, (-1))) (by decide +kernel) rfl ⟨_, rfl, rfl, h⟩
        · have h := h.2 hc
          refine EvX.blk (pc' := 38) [(.iload_n 3, 0, 0), (.iload 4, 0, 0)] (by decide +kernel) trivial ?_
          show Ev (d + 1) M_Mo_exchange 0 0 38 [(2, v0), (0, v1), (0, v2), (0, v3), (0, v4), zJ, zJ, zJ, zJ] [(0, v4), (0, v3)] kd m12 (zqI kd q)
          refine EvX.icmp_ne (off := 5) (tgt := 43) (by decide +kernel) (by decide) (fun hc => ?_) (fun hc => ?_)
          · have h := h.1 hc
            refine EvX.blk (pc' := 44) [(.aload_n 0, 0, 0)] (by decide +kernel) trivial ?_
            show Ev (d + 1) M_Mo_exchange 0 0 44 [(2, v0), (0, v1), (0, v2), (0, v3), (0, v4), zJ, zJ, zJ, zJ] [(2, v0)] kd m12 (zqI kd q)
            obtain ⟨ov, h⟩ := h
            obtain ⟨q13, hq, h⟩ := h
            refine EvX.callV (c := 8) (mc := 0) (ms := 0) (as := []) (st := []) (by decide +kernel) l_Mo_183 k_Mo_keepsPast v_Mo_keepsPast a_Mo_keepsPast (by decide) (Nat.le_of_ble_eq_true rfl) rfl ov hq (fun r kd1 m15 hr => ?_)
            obtain ⟨rfl, hk, hr⟩ := hr
            subst kd1
            have h := h m15 hr
            show Ev (d + 1) M_Mo_exchange 0 0 47 [(2, v0), (0, v1), (0, v2), (0, v3), (0, v4), zJ, zJ, zJ, zJ] [] kd m15 (zqI kd q)
            refine EvX.blk (pc' := 50) [(.iconst 0, 0, 0), (.istore 5, 0, 0)] (by decide +kernel) trivial ?_
            show Ev (d + 1) M_Mo_exchange 0 0 50 [(2, v0), (0, v1), (0, v2), (0, v3), (0, v4), (0, 0), zJ, zJ, zJ] [] kd m15 (zqI kd q)
            exact h
          · have h := h.2 hc
            refine EvX.blk (pc' := 42) [(.iconst (-1), 0, 0)] (by decide +kernel) trivial ?_
            show Ev (d + 1) M_Mo_exchange 0 0 42 [(2, v0), (0, v1), (0, v2), (0, v3), (0, v4), zJ, zJ, zJ, zJ] [(0, (-1))] kd m12 (zqI kd q)
            exact EvX.ret (r := (0, (-1))) (by decide +kernel) rfl ⟨_, rfl, rfl, h⟩
theorem S_Mo_exchange {d : Nat} {kd : ZK} {m : ZM} {q : Int → ZM → Prop} {v0 v1 v2 v3 v4 : Int} (h : (∃ q1, CtI d M_Mo_isPlayer [(0, v1)] kd m q1 ∧ ∀ x2 m3, q1 x2 m3 → ((x2 = 0 → q (-1) m3) ∧ (¬ x2 = 0 → (zobj kd v0 8 ∧ ∃ q4, CtI d M_Mo_isQuestion [(2, v0), (0, v1), (0, v2)] kd m3 q4 ∧ ∀ x5 m6, q4 x5 m6 → ((x5 = 0 → q (-1) m6) ∧ (¬ x5 = 0 → (zobj kd v0 8 ∧ ∃ q7, CtI d M_Mo_isAnswer [(2, v0), (0, v1), (0, v3)] kd m6 q7 ∧ ∀ x8 m9, q7 x8 m9 → ((x8 = 0 → q (-1) m9) ∧ (¬ x8 = 0 → (zobj kd v0 8 ∧ ∃ q10, CtI d M_Mo_isAnswer [(2, v0), (0, v1), (0, v4)] kd m9 q10 ∧ ∀ x11 m12, q10 x11 m12 → ((x11 = 0 → q (-1) m12) ∧ (¬ x11 = 0 → ((v3 ≠ v4 → (zobj kd v0 8 ∧ ∃ q13, CtV d M_Mo_keepsPast [(2, v0)] kd m12 q13 ∧ ∀ m15, q13 m15 → (Ev (d + 1) M_Mo_exchange 0 0 50 [(2, v0), (0, v1), (0, v2), (0, v3), (0, v4), (0, 0), zJ, zJ, zJ] [] kd m15 (zqI kd q)))) ∧ (¬ v3 ≠ v4 → q (-1) m12))))))))))))))) : CtI (d + 1) M_Mo_exchange [(2, v0), (0, v1), (0, v2), (0, v3), (0, v4)] kd m q :=
  Ct.start k_Mo_exchange (Nat.le_of_ble_eq_true rfl) ⟨1, Or.inr (Or.inl ⟨rfl, rfl⟩)⟩ (T_Mo_exchange_0 h)
set_option maxRecDepth 20000 in
set_option maxHeartbeats 1000000 in
theorem T_Mo_exchange_50 {d : Nat} {kd : ZK} {m : ZM} {q : Int → ZM → Prop} {v0 v1 v2 v3 v4 v5 : Int} (h : (zobj kd v0 8 ∧ ∃ q1, CtI d M_Mo_questions [(2, v0), (0, iw (1 - v1))] kd m q1 ∧ ∀ x2 m3, q1 x2 m3 → ((x2 ≤ v5 → q 1 m3) ∧ (¬ x2 ≤ v5 → (Ev (d + 1) M_Mo_exchange 0 0 65 [(2, v0), (0, v1), (0, v2), (0, v3), (0, v4), (0, v5), (0, 0), zJ, zJ] [] kd m3 (zqI kd q)))))) : Ev (d + 1) M_Mo_exchange 0 0 50 [(2, v0), (0, v1), (0, v2), (0, v3), (0, v4), (0, v5), zJ, zJ, zJ] [] kd m (zqI kd q) := by
  refine EvX.blk (pc' := 56) [(.iload 5, 0, 0), (.aload_n 0, 0, 0), (.iconst 1, 0, 0), (.iload_n 1, 0, 0), (.isub, 0, 0)] (by decide +kernel) trivial ?_
  show Ev (d + 1) M_Mo_exchange 0 0 56 [(2, v0), (0, v1), (0, v2), (0, v3), (0, v4), (0, v5), zJ, zJ, zJ] [(0, iw (1 - v1)), (2, v0), (0, v5)] kd m (zqI kd q)
  obtain ⟨ov, h⟩ := h
  obtain ⟨q1, hq, h⟩ := h
  refine EvX.callV (c := 8) (mc := 0) (ms := 0) (as := [(0, iw (1 - v1))]) (st := [(0, v5)]) (by decide +kernel) l_Mo_163 k_Mo_questions v_Mo_questions a_Mo_questions (by decide) (Nat.le_of_ble_eq_true rfl) rfl ov hq (fun r kd1 m3 hr => ?_)
  obtain ⟨x2, rfl, hk, hr⟩ := hr
  subst kd1
  have h := h x2 m3 hr
  show Ev (d + 1) M_Mo_exchange 0 0 59 [(2, v0), (0, v1), (0, v2), (0, v3), (0, v4), (0, v5), zJ, zJ, zJ] [(0, x2), (0, v5)] kd m3 (zqI kd q)
  refine EvX.icmp_ge (off := 116) (tgt := 175) (by decide +kernel) (by decide) (fun hc => ?_) (fun hc => ?_)
  · have h := h.1 hc
    refine EvX.blk (pc' := 176) [(.iconst 1, 0, 0)] (by decide +kernel) trivial ?_
    show Ev (d + 1) M_Mo_exchange 0 0 176 [(2, v0), (0, v1), (0, v2), (0, v3), (0, v4), (0, v5), zJ, zJ, zJ] [(0, 1)] kd m3 (zqI kd q)
    exact EvX.ret (r := (0, 1)) (by decide +kernel) rfl ⟨_, rfl, rfl, h⟩
  · have h := h.2 hc
    refine EvX.blk (pc' := 65) [(.iconst 0, 0, 0), (.istore 6, 0, 0)] (by decide +kernel) trivial ?_
    show Ev (d + 1) M_Mo_exchange 0 0 65 [(2, v0), (0, v1), (0, v2), (0, v3), (0, v4), (0, v5), (0, 0), zJ, zJ] [] kd m3 (zqI kd q)
    exact h
set_option maxRecDepth 20000 in
set_option maxHeartbeats 1000000 in
theorem T_Mo_exchange_65 {d : Nat} {kd : ZK} {m : ZM} {q : Int → ZM → Prop} {v0 v1 v2 v3 v4 v5 v6 : Int} (h : (zobj kd v0 8 ∧ ∃ q1, CtI d M_Mo_answers [(2, v0), (0, iw (1 - v1))] kd m q1 ∧ ∀ x2 m3, q1 x2 m3 → ((x2 ≤ v6 → (Ev (d + 1) M_Mo_exchange 0 0 50 [(2, v0), (0, v1), (0, v2), (0, v3), (0, v4), (0, iw (v5 + 1)), zJ, zJ, zJ] [] kd m3 (zqI kd q))) ∧ (¬ x2 ≤ v6 → ((v1 ≠ 0 → (∃ q4, CtI d M_Mo_fourOf [(0, v5), (0, v2), (0, v6), (0, v3)] kd m3 q4 ∧ ∀ x5 m6, q4 x5 m6 → (Ev (d + 1) M_Mo_exchange 0 0 102 [(2, v0), (0, v1), (0, v2), (0, v3), (0, v4), (0, v5), (0, v6), zJ, zJ] [(0, x5)] kd m6 (zqI kd q)))) ∧ (¬ v1 ≠ 0 → (∃ q7, CtI d M_Mo_fourOf [(0, v2), (0, v5), (0, v3), (0, v6)] kd m3 q7 ∧ ∀ x8 m9, q7 x8 m9 → (Ev (d + 1) M_Mo_exchange 0 0 102 [(2, v0), (0, v1), (0, v2), (0, v3), (0, v4), (0, v5), (0, v6), zJ, zJ] [(0, x8)] kd m9 (zqI kd q))))))))) : Ev (d + 1) M_Mo_exchange 0 0 65 [(2, v0), (0, v1), (0, v2), (0, v3), (0, v4), (0, v5), (0, v6), zJ, zJ] [] kd m (zqI kd q) := by
  refine EvX.blk (pc' := 71) [(.iload 6, 0, 0), (.aload_n 0, 0, 0), (.iconst 1, 0, 0), (.iload_n 1, 0, 0), (.isub, 0, 0)] (by decide +kernel) trivial ?_
  show Ev (d + 1) M_Mo_exchange 0 0 71 [(2, v0), (0, v1), (0, v2), (0, v3), (0, v4), (0, v5), (0, v6), zJ, zJ] [(0, iw (1 - v1)), (2, v0), (0, v6)] kd m (zqI kd q)
  obtain ⟨ov, h⟩ := h
  obtain ⟨q1, hq, h⟩ := h
  refine EvX.callV (c := 8) (mc := 0) (ms := 0) (as := [(0, iw (1 - v1))]) (st := [(0, v6)]) (by decide +kernel) l_Mo_167 k_Mo_answers v_Mo_answers a_Mo_answers (by decide) (Nat.le_of_ble_eq_true rfl) rfl ov hq (fun r kd1 m3 hr => ?_)
  obtain ⟨x2, rfl, hk, hr⟩ := hr
  subst kd1
  have h := h x2 m3 hr
  show Ev (d + 1) M_Mo_exchange 0 0 74 [(2, v0), (0, v1), (0, v2), (0, v3), (0, v4), (0, v5), (0, v6), zJ, zJ] [(0, x2), (0, v6)] kd m3 (zqI kd q)
  refine EvX.icmp_ge (off := 95) (tgt := 169) (by decide +kernel) (by decide) (fun hc => ?_) (fun hc => ?_)
  · have h := h.1 hc
    refine EvX.blk (pc' := 172) [(.iinc 5 1, 0, 0)] (by decide +kernel) trivial ?_
    show Ev (d + 1) M_Mo_exchange 0 0 172 [(2, v0), (0, v1), (0, v2), (0, v3), (0, v4), (0, iw (v5 + 1)), (0, v6), zJ, zJ] [] kd m3 (zqI kd q)
    refine EvX.goto (off := (-122)) (tgt := 50) (by decide +kernel) (by decide) ?_
    exact EvX.weak (ls2 := [(2, v0), (0, v1), (0, v2), (0, v3), (0, v4), (0, iw (v5 + 1)), zJ, zJ, zJ]) (zwk_of ⟨Or.inr rfl, Or.inr rfl, Or.inr rfl, Or.inr rfl, Or.inr rfl, Or.inr rfl, Or.inl rfl, Or.inl rfl, Or.inl rfl, trivial⟩) h
  · have h := h.2 hc
    refine EvX.blk (pc' := 78) [(.iload_n 1, 0, 0)] (by decide +kernel) trivial ?_
    show Ev (d + 1) M_Mo_exchange 0 0 78 [(2, v0), (0, v1), (0, v2), (0, v3), (0, v4), (0, v5), (0, v6), zJ, zJ] [(0, v1)] kd m3 (zqI kd q)
    refine EvX.if_ne (off := 15) (tgt := 93) (by decide +kernel) (by decide) (fun hc => ?_) (fun hc => ?_)
    · have h := h.1 hc
      refine EvX.blk (pc' := 99) [(.iload 5, 0, 0), (.iload_n 2, 0, 0), (.iload 6, 0, 0), (.iload_n 3, 0, 0)] (by decide +kernel) trivial ?_
      show Ev (d + 1) M_Mo_exchange 0 0 99 [(2, v0), (0, v1), (0, v2), (0, v3), (0, v4), (0, v5), (0, v6), zJ, zJ] [(0, v3), (0, v6), (0, v2), (0, v5)] kd m3 (zqI kd q)
      obtain ⟨q4, hq, h⟩ := h
      refine EvX.callS (mc := 0) (ms := 0) (as := [(0, v5), (0, v2), (0, v6), (0, v3)]) (st := []) (by decide +kernel) l_Mo_122 k_Mo_fourOf s_Mo_fourOf a_Mo_fourOf (by decide) (Nat.le_of_ble_eq_true rfl) hq (fun r kd1 m6 hr => ?_)
      obtain ⟨x5, rfl, hk, hr⟩ := hr
      subst kd1
      have h := h x5 m6 hr
      show Ev (d + 1) M_Mo_exchange 0 0 102 [(2, v0), (0, v1), (0, v2), (0, v3), (0, v4), (0, v5), (0, v6), zJ, zJ] [(0, x5)] kd m6 (zqI kd q)
      exact h
    · have h := h.2 hc
      refine EvX.blk (pc' := 87) [(.iload_n 2, 0, 0), (.iload 5, 0, 0), (.iload_n 3, 0, 0), (.iload 6, 0, 0)] (by decide +kernel) trivial ?_
      show Ev (d + 1) M_Mo_exchange 0 0 87 [(2, v0), (0, v1), (0, v2), (0, v3), (0, v4), (0, v5), (0, v6), zJ, zJ] [(0, v6), (0, v3), (0, v5), (0, v2)] kd m3 (zqI kd q)
      obtain ⟨q7, hq, h⟩ := h
      refine EvX.callS (mc := 0) (ms := 0) (as := [(0, v2), (0, v5), (0, v3), (0, v6)]) (st := []) (by decide +kernel) l_Mo_122 k_Mo_fourOf s_Mo_fourOf a_Mo_fourOf (by decide) (Nat.le_of_ble_eq_true rfl) hq (fun r kd1 m9 hr => ?_)
      obtain ⟨x8, rfl, hk, hr⟩ := hr
      subst kd1
      have h := h x8 m9 hr
      show Ev (d + 1) M_Mo_exchange 0 0 90 [(2, v0), (0, v1), (0, v2), (0, v3), (0, v4), (0, v5), (0, v6), zJ, zJ] [(0, x8)] kd m9 (zqI kd q)
      refine EvX.goto (off := 12) (tgt := 102) (by decide +kernel) (by decide) ?_
      exact h
set_option maxRecDepth 20000 in
set_option maxHeartbeats 1000000 in
theorem T_Mo_exchange_102 {d : Nat} {kd : ZK} {m : ZM} {q : Int → ZM → Prop} {v0 v1 v2 v3 v4 v5 v6 s0 : Int} (h : ((v1 ≠ 0 → (∃ q1, CtI d M_Mo_fourOf [(0, v5), (0, v2), (0, v6), (0, v4)] kd m q1 ∧ ∀ x2 m3, q1 x2 m3 → (Ev (d + 1) M_Mo_exchange 0 0 131 [(2, v0), (0, v1), (0, v2), (0, v3), (0, v4), (0, v5), (0, v6), (0, s0), zJ] [(0, x2)] kd m3 (zqI kd q)))) ∧ (¬ v1 ≠ 0 → (∃ q4, CtI d M_Mo_fourOf [(0, v2), (0, v5), (0, v4), (0, v6)] kd m q4 ∧ ∀ x5 m6, q4 x5 m6 → (Ev (d + 1) M_Mo_exchange 0 0 131 [(2, v0), (0, v1), (0, v2), (0, v3), (0, v4), (0, v5), (0, v6), (0, s0), zJ] [(0, x5)] kd m6 (zqI kd q)))))) : Ev (d + 1) M_Mo_exchange 0 0 102 [(2, v0), (0, v1), (0, v2), (0, v3), (0, v4), (0, v5), (0, v6), zJ, zJ] [(0, s0)] kd m (zqI kd q) := by
  refine EvX.blk (pc' := 105) [(.istore 7, 0, 0), (.iload_n 1, 0, 0)] (by decide +kernel) trivial ?_
  show Ev (d + 1) M_Mo_exchange 0 0 105 [(2, v0), (0, v1), (0, v2), (0, v3), (0, v4), (0, v5), (0, v6), (0, s0), zJ] [(0, v1)] kd m (zqI kd q)
  refine EvX.if_ne (off := 16) (tgt := 121) (by decide +kernel) (by decide) (fun hc => ?_) (fun hc => ?_)
  · have h := h.1 hc
    refine EvX.blk (pc' := 128) [(.iload 5, 0, 0), (.iload_n 2, 0, 0), (.iload 6, 0, 0), (.iload 4, 0, 0)] (by decide +kernel) trivial ?_
    show Ev (d + 1) M_Mo_exchange 0 0 128 [(2, v0), (0, v1), (0, v2), (0, v3), (0, v4), (0, v5), (0, v6), (0, s0), zJ] [(0, v4), (0, v6), (0, v2), (0, v5)] kd m (zqI kd q)
    obtain ⟨q1, hq, h⟩ := h
    refine EvX.callS (mc := 0) (ms := 0) (as := [(0, v5), (0, v2), (0, v6), (0, v4)]) (st := []) (by decide +kernel) l_Mo_122 k_Mo_fourOf s_Mo_fourOf a_Mo_fourOf (by decide) (Nat.le_of_ble_eq_true rfl) hq (fun r kd1 m3 hr => ?_)
    obtain ⟨x2, rfl, hk, hr⟩ := hr
    subst kd1
    have h := h x2 m3 hr
    show Ev (d + 1) M_Mo_exchange 0 0 131 [(2, v0), (0, v1), (0, v2), (0, v3), (0, v4), (0, v5), (0, v6), (0, s0), zJ] [(0, x2)] kd m3 (zqI kd q)
    exact h
  · have h := h.2 hc
    refine EvX.blk (pc' := 115) [(.iload_n 2, 0, 0), (.iload 5, 0, 0), (.iload 4, 0, 0), (.iload 6, 0, 0)] (by decide +kernel) trivial ?_
    show Ev (d + 1) M_Mo_exchange 0 0 115 [(2, v0), (0, v1), (0, v2), (0, v3), (0, v4), (0, v5), (0, v6), (0, s0), zJ] [(0, v6), (0, v4), (0, v5), (0, v2)] kd m (zqI kd q)
    obtain ⟨q4, hq, h⟩ := h
    refine EvX.callS (mc := 0) (ms := 0) (as := [(0, v2), (0, v5), (0, v4), (0, v6)]) (st := []) (by decide +kernel) l_Mo_122 k_Mo_fourOf s_Mo_fourOf a_Mo_fourOf (by decide) (Nat.le_of_ble_eq_true rfl) hq (fun r kd1 m6 hr => ?_)
    obtain ⟨x5, rfl, hk, hr⟩ := hr
    subst kd1
    have h := h x5 m6 hr
    show Ev (d + 1) M_Mo_exchange 0 0 118 [(2, v0), (0, v1), (0, v2), (0, v3), (0, v4), (0, v5), (0, v6), (0, s0), zJ] [(0, x5)] kd m6 (zqI kd q)
    refine EvX.goto (off := 13) (tgt := 131) (by decide +kernel) (by decide) ?_
    exact h
set_option maxRecDepth 20000 in
set_option maxHeartbeats 1000000 in
theorem T_Mo_exchange_131 {d : Nat} {kd : ZK} {m : ZM} {q : Int → ZM → Prop} {v0 v1 v2 v3 v4 v5 v6 v7 s0 : Int} (h : (zobj kd v0 8 ∧ ∃ q1, CtV d M_Mo_exchanges [(2, v0), (0, iw (29 + v7)), (0, iw (29 + s0))] kd m q1 ∧ ∀ m3, q1 m3 → (zobj kd v0 8 ∧ ∃ q4, CtV d M_Mo_exchanges [(2, v0), (0, iw (429 + v7)), (0, iw (429 + s0))] kd m3 q4 ∧ ∀ m6, q4 m6 → (Ev (d + 1) M_Mo_exchange 0 0 65 [(2, v0), (0, v1), (0, v2), (0, v3), (0, v4), (0, v5), (0, iw (v6 + 1)), zJ, zJ] [] kd m6 (zqI kd q))))) : Ev (d + 1) M_Mo_exchange 0 0 131 [(2, v0), (0, v1), (0, v2), (0, v3), (0, v4), (0, v5), (0, v6), (0, v7), zJ] [(0, s0)] kd m (zqI kd q) := by
  refine EvX.blk (pc' := 144) [(.istore 8, 0, 0), (.aload_n 0, 0, 0), (.bipush 29, 0, 0), (.iload 7, 0, 0), (.iadd, 0, 0), (.bipush 29, 0, 0), (.iload 8, 0, 0), (.iadd, 0, 0)] (by decide +kernel) trivial ?_
  show Ev (d + 1) M_Mo_exchange 0 0 144 [(2, v0), (0, v1), (0, v2), (0, v3), (0, v4), (0, v5), (0, v6), (0, v7), (0, s0)] [(0, iw (29 + s0)), (0, iw (29 + v7)), (2, v0)] kd m (zqI kd q)
  obtain ⟨ov, h⟩ := h
  obtain ⟨q1, hq, h⟩ := h
  refine EvX.callV (c := 8) (mc := 0) (ms := 0) (as := [(0, iw (29 + v7)), (0, iw (29 + s0))]) (st := []) (by decide +kernel) l_Mo_212 k_Mo_exchanges v_Mo_exchanges a_Mo_exchanges (by decide) (Nat.le_of_ble_eq_true rfl) rfl ov hq (fun r kd1 m3 hr => ?_)
  obtain ⟨rfl, hk, hr⟩ := hr
  subst kd1
  have h := h m3 hr
  show Ev (d + 1) M_Mo_exchange 0 0 147 [(2, v0), (0, v1), (0, v2), (0, v3), (0, v4), (0, v5), (0, v6), (0, v7), (0, s0)] [] kd m3 (zqI kd q)
  refine EvX.blk (pc' := 160) [(.aload_n 0, 0, 0), (.sipush 429, 0, 0), (.iload 7, 0, 0), (.iadd, 0, 0), (.sipush 429, 0, 0), (.iload 8, 0, 0), (.iadd, 0, 0)] (by decide +kernel) trivial ?_
  show Ev (d + 1) M_Mo_exchange 0 0 160 [(2, v0), (0, v1), (0, v2), (0, v3), (0, v4), (0, v5), (0, v6), (0, v7), (0, s0)] [(0, iw (429 + s0)), (0, iw (429 + v7)), (2, v0)] kd m3 (zqI kd q)
  obtain ⟨ov, h⟩ := h
  obtain ⟨q4, hq, h⟩ := h
  refine EvX.callV (c := 8) (mc := 0) (ms := 0) (as := [(0, iw (429 + v7)), (0, iw (429 + s0))]) (st := []) (by decide +kernel) l_Mo_212 k_Mo_exchanges v_Mo_exchanges a_Mo_exchanges (by decide) (Nat.le_of_ble_eq_true rfl) rfl ov hq (fun r kd1 m6 hr => ?_)
  obtain ⟨rfl, hk, hr⟩ := hr
  subst kd1
  have h := h m6 hr
  show Ev (d + 1) M_Mo_exchange 0 0 163 [(2, v0), (0, v1), (0, v2), (0, v3), (0, v4), (0, v5), (0, v6), (0, v7), (0, s0)] [] kd m6 (zqI kd q)
  refine EvX.blk (pc' := 166) [(.iinc 6 1, 0, 0)] (by decide +kernel) trivial ?_
  show Ev (d + 1) M_Mo_exchange 0 0 166 [(2, v0), (0, v1), (0, v2), (0, v3), (0, v4), (0, v5), (0, iw (v6 + 1)), (0, v7), (0, s0)] [] kd m6 (zqI kd q)
  refine EvX.goto (off := (-101)) (tgt := 65) (by decide +kernel) (by decide) ?_
  exact EvX.weak (ls2 := [(2, v0), (0, v1), (0, v2), (0, v3), (0, v4), (0, v5), (0, iw (v6 + 1)), zJ, zJ]) (zwk_of ⟨Or.inr rfl, Or.inr rfl, Or.inr rfl, Or.inr rfl, Or.inr rfl, Or.inr rfl, Or.inr rfl, Or.inl rfl, Or.inl rfl, trivial⟩) h
set_option maxRecDepth 20000 in
set_option maxHeartbeats 1000000 in
theorem T_Mo_swap_0 {d : Nat} {kd : ZK} {m : ZM} {q : Int → ZM → Prop} {v0 : Int} (h : (zobj kd v0 8 ∧ ∃ q1, CtI d M_Mo_hasGame [(2, v0)] kd m q1 ∧ ∀ x2 m3, q1 x2 m3 → ((x2 ≠ 0 → (zobj kd v0 8 ∧ ∃ q4, CtV d M_Mo_keepsPast [(2, v0)] kd m3 q4 ∧ ∀ m6, q4 m6 → (zobj kd v0 8 ∧ zobj kd v0 8 ∧ (∃ q7, CtV d M_Mo_moves [(2, m6 v0 0), (0, 0), (2, m6 v0 2), (0, 0)] kd m6 q7 ∧ ∀ m9, q7 m9 → (Ev (d + 1) M_Mo_swap 0 0 28 [(2, v0), (0, 0), zJ, zJ, zJ] [] kd m9 (zqI kd q)))))) ∧ (¬ x2 ≠ 0 → q (-1) m3)))) : Ev (d + 1) M_Mo_swap 0 0 0 [(2, v0), zJ, zJ, zJ, zJ] [] kd m (zqI kd q) := by
  refine EvX.blk (pc' := 1) [(.aload_n 0, 0, 0)] (by decide +kernel) trivial ?_
  show Ev (d + 1) M_Mo_swap 0 0 1 [(2, v0), zJ, zJ, zJ, zJ] [(2, v0)] kd m (zqI kd q)
  obtain ⟨ov, h⟩ := h
  obtain ⟨q1, hq, h⟩ := h
  refine EvX.callV (c := 8) (mc := 0) (ms := 0) (as := []) (st := []) (by decide +kernel) l_Mo_215 k_Mo_hasGame v_Mo_hasGame a_Mo_hasGame (by decide) (Nat.le_of_ble_eq_true rfl) rfl ov hq (fun r kd1 m3 hr => ?_)
  obtain ⟨x2, rfl, hk, hr⟩ := hr
  subst kd1
  have h := h x2 m3 hr
  show Ev (d + 1) M_Mo_swap 0 0 4 [(2, v0), zJ, zJ, zJ, zJ] [(0, x2)] kd m3 (zqI kd q)
  refine EvX.if_ne (off := 5) (tgt := 9) (by decide +kernel) (by decide) (fun hc => ?_) (fun hc => ?_)
  · have h := h.1 hc
    refine EvX.blk (pc' := 10) [(.aload_n 0, 0, 0)] (by decide +kernel) trivial ?_
    show Ev (d + 1) M_Mo_swap 0 0 10 [(2, v0), zJ, zJ, zJ, zJ] [(2, v0)] kd m3 (zqI kd q)
    obtain ⟨ov, h⟩ := h
    obtain ⟨q4, hq, h⟩ := h
    refine EvX.callV (c := 8) (mc := 0) (ms := 0) (as := []) (st := []) (by decide +kernel) l_Mo_183 k_Mo_keepsPast v_Mo_keepsPast a_Mo_keepsPast (by decide) (Nat.le_of_ble_eq_true rfl) rfl ov hq (fun r kd1 m6 hr => ?_)
    obtain ⟨rfl, hk, hr⟩ := hr
    subst kd1
    have h := h m6 hr
    show Ev (d + 1) M_Mo_swap 0 0 13 [(2, v0), zJ, zJ, zJ, zJ] [] kd m6 (zqI kd q)
    obtain ⟨o1, o2, h⟩ := h
    refine EvX.blk (pc' := 23) [(.aload_n 0, 0, 0), (.getfield 9, 8, 0), (.iconst 0, 0, 0), (.aload_n 0, 0, 0), (.getfield 16, 8, 2), (.iconst 0, 0, 0)] (by decide +kernel) ⟨g_Mo_9, g_Mo_16, trivial⟩ ⟨o1, o2, ?_⟩
    show Ev (d + 1) M_Mo_swap 0 0 23 [(2, v0), zJ, zJ, zJ, zJ] [(0, 0), (2, m6 v0 2), (0, 0), (2, m6 v0 0)] kd m6 (zqI kd q)
    obtain ⟨q7, hq, h⟩ := h
    refine EvX.callS (mc := 0) (ms := 0) (as := [(2, m6 v0 0), (0, 0), (2, m6 v0 2), (0, 0)]) (st := []) (by decide +kernel) l_Mo_156 k_Mo_moves s_Mo_moves a_Mo_moves (by decide) (Nat.le_of_ble_eq_true rfl) hq (fun r kd1 m9 hr => ?_)
    obtain ⟨rfl, hk, hr⟩ := hr
    subst kd1
    have h := h m9 hr
    show Ev (d + 1) M_Mo_swap 0 0 26 [(2, v0), zJ, zJ, zJ, zJ] [] kd m9 (zqI kd q)
    refine EvX.blk (pc' := 28) [(.iconst 0, 0, 0), (.istore_n 1, 0, 0)] (by decide +kernel) trivial ?_
    show Ev (d + 1) M_Mo_swap 0 0 28 [(2, v0), (0, 0), zJ, zJ, zJ] [] kd m9 (zqI kd q)
    exact h
  · have h := h.2 hc
    refine EvX.blk (pc' := 8) [(.iconst (-1), 0, 0)] (by decide +kernel) trivial ?_
    show Ev (d + 1) M_Mo_swap 0 0 8 [(2, v0), zJ, zJ, zJ, zJ] [(0, (-1))] kd m3 (zqI kd q)
    exact EvX.ret (r := (0, (-1))) (by decide +kernel) rfl ⟨_, rfl, rfl, h⟩
theorem S_Mo_swap {d : Nat} {kd : ZK} {m : ZM} {q : Int → ZM → Prop} {v0 : Int} (h : (zobj kd v0 8 ∧ ∃ q1, CtI d M_Mo_hasGame [(2, v0)] kd m q1 ∧ ∀ x2 m3, q1 x2 m3 → ((x2 ≠ 0 → (zobj kd v0 8 ∧ ∃ q4, CtV d M_Mo_keepsPast [(2, v0)] kd m3 q4 ∧ ∀ m6, q4 m6 → (zobj kd v0 8 ∧ zobj kd v0 8 ∧ (∃ q7, CtV d M_Mo_moves [(2, m6 v0 0), (0, 0), (2, m6 v0 2), (0, 0)] kd m6 q7 ∧ ∀ m9, q7 m9 → (Ev (d + 1) M_Mo_swap 0 0 28 [(2, v0), (0, 0), zJ, zJ, zJ] [] kd m9 (zqI kd q)))))) ∧ (¬ x2 ≠ 0 → q (-1) m3)))) : CtI (d + 1) M_Mo_swap [(2, v0)] kd m q :=
  Ct.start k_Mo_swap (Nat.le_of_ble_eq_true rfl) ⟨1, Or.inr (Or.inl ⟨rfl, rfl⟩)⟩ (T_Mo_swap_0 h)
set_option maxRecDepth 20000 in
set_option maxHeartbeats 1000000 in
theorem T_Mo_swap_28 {d : Nat} {kd : ZK} {m : ZM} {q : Int → ZM → Prop} {v0 v1 : Int} (h : ((2 ≤ v1 → (Ev (d + 1) M_Mo_swap 0 0 73 [(2, v0), (0, 0), zJ, zJ, zJ] [] kd m (zqI kd q))) ∧ (¬ 2 ≤ v1 → (zobj kd v0 8 ∧ zobj kd v0 8 ∧ zIn kd (m v0 2) 0 (iw (1 - v1)) ∧ zIn kd (m v0 0) 0 (iw (0 + v1)) ∧ zobj kd v0 8 ∧ zobj kd v0 8 ∧ zIn kd ((zup m (m v0 0) (iw (0 + v1)) (m (m v0 2) (iw (1 - v1)))) v0 2) 0 (iw (3 - v1)) ∧ zIn kd ((zup m (m v0 0) (iw (0 + v1)) (m (m v0 2) (iw (1 - v1)))) v0 0) 0 (iw (2 + v1)) ∧ (Ev (d + 1) M_Mo_swap 0 0 28 [(2, v0), (0, iw (v1 + 1)), zJ, zJ, zJ] [] kd (zup (zup m (m v0 0) (iw (0 + v1)) (m (m v0 2) (iw (1 - v1)))) ((zup m (m v0 0) (iw (0 + v1)) (m (m v0 2) (iw (1 - v1)))) v0 0) (iw (2 + v1)) ((zup m (m v0 0) (iw (0 + v1)) (m (m v0 2) (iw (1 - v1)))) ((zup m (m v0 0) (iw (0 + v1)) (m (m v0 2) (iw (1 - v1)))) v0 2) (iw (3 - v1)))) (zqI kd q)))))) : Ev (d + 1) M_Mo_swap 0 0 28 [(2, v0), (0, v1), zJ, zJ, zJ] [] kd m (zqI kd q) := by
  refine EvX.blk (pc' := 30) [(.iload_n 1, 0, 0), (.iconst 2, 0, 0)] (by decide +kernel) trivial ?_
  show Ev (d + 1) M_Mo_swap 0 0 30 [(2, v0), (0, v1), zJ, zJ, zJ] [(0, 2), (0, v1)] kd m (zqI kd q)
  refine EvX.icmp_ge (off := 41) (tgt := 71) (by decide +kernel) (by decide) (fun hc => ?_) (fun hc => ?_)
  · have h := h.1 hc
    refine EvX.blk (pc' := 73) [(.iconst 0, 0, 0), (.istore_n 1, 0, 0)] (by decide +kernel) trivial ?_
    show Ev (d + 1) M_Mo_swap 0 0 73 [(2, v0), (0, 0), zJ, zJ, zJ] [] kd m (zqI kd q)
    exact h
  · have h := h.2 hc
    obtain ⟨o1, o2, o3, o4, o5, o6, o7, o8, h⟩ := h
    refine EvX.blk (pc' := 68) [(.aload_n 0, 0, 0), (.getfield 9, 8, 0), (.iconst 0, 0, 0), (.iload_n 1, 0, 0), (.iadd, 0, 0), (.aload_n 0, 0, 0), (.getfield 16, 8, 2), (.iconst 1, 0, 0), (.iload_n 1, 0, 0), (.isub, 0, 0), (.iaload, 0, 0), (.iastore, 0, 0), (.aload_n 0, 0, 0), (.getfield 9, 8, 0), (.iconst 2, 0, 0), (.iload_n 1, 0, 0), (.iadd, 0, 0), (.aload_n 0, 0, 0), (.getfield 16, 8, 2), (.iconst 3, 0, 0), (.iload_n 1, 0, 0), (.isub, 0, 0), (.iaload, 0, 0), (.iastore, 0, 0), (.iinc 1 1, 0, 0)] (by decide +kernel) ⟨g_Mo_9, g_Mo_16, g_Mo_9, g_Mo_16, trivial⟩ ⟨o1, o2, o3, o4, o5, o6, o7, o8, ?_⟩
    show Ev (d + 1) M_Mo_swap 0 0 68 [(2, v0), (0, iw (v1 + 1)), zJ, zJ, zJ] [] kd (zup (zup m (m v0 0) (iw (0 + v1)) (m (m v0 2) (iw (1 - v1)))) ((zup m (m v0 0) (iw (0 + v1)) (m (m v0 2) (iw (1 - v1)))) v0 0) (iw (2 + v1)) ((zup m (m v0 0) (iw (0 + v1)) (m (m v0 2) (iw (1 - v1)))) ((zup m (m v0 0) (iw (0 + v1)) (m (m v0 2) (iw (1 - v1)))) v0 2) (iw (3 - v1)))) (zqI kd q)
    refine EvX.goto (off := (-40)) (tgt := 28) (by decide +kernel) (by decide) ?_
    exact h
set_option maxRecDepth 20000 in
set_option maxHeartbeats 1000000 in
theorem T_Mo_swap_73 {d : Nat} {kd : ZK} {m : ZM} {q : Int → ZM → Prop} {v0 v1 : Int} (h : ((5 ≤ v1 → q 1 m) ∧ (¬ 5 ≤ v1 → (Ev (d + 1) M_Mo_swap 0 0 80 [(2, v0), (0, v1), (0, 0), zJ, zJ] [] kd m (zqI kd q))))) : Ev (d + 1) M_Mo_swap 0 0 73 [(2, v0), (0, v1), zJ, zJ, zJ] [] kd m (zqI kd q) := by
  refine EvX.blk (pc' := 75) [(.iload_n 1, 0, 0), (.iconst 5, 0, 0)] (by decide +kernel) trivial ?_
  show Ev (d + 1) M_Mo_swap 0 0 75 [(2, v0), (0, v1), zJ, zJ, zJ] [(0, 5), (0, v1)] kd m (zqI kd q)
  refine EvX.icmp_ge (off := 140) (tgt := 215) (by decide +kernel) (by decide) (fun hc => ?_) (fun hc => ?_)
  · have h := h.1 hc
    refine EvX.blk (pc' := 216) [(.iconst 1, 0, 0)] (by decide +kernel) trivial ?_
    show Ev (d + 1) M_Mo_swap 0 0 216 [(2, v0), (0, v1), zJ, zJ, zJ] [(0, 1)] kd m (zqI kd q)
    exact EvX.ret (r := (0, 1)) (by decide +kernel) rfl ⟨_, rfl, rfl, h⟩
  · have h := h.2 hc
    refine EvX.blk (pc' := 80) [(.iconst 0, 0, 0), (.istore_n 2, 0, 0)] (by decide +kernel) trivial ?_
    show Ev (d + 1) M_Mo_swap 0 0 80 [(2, v0), (0, v1), (0, 0), zJ, zJ] [] kd m (zqI kd q)
    exact h
set_option maxRecDepth 20000 in
set_option maxHeartbeats 1000000 in
theorem T_Mo_swap_80 {d : Nat} {kd : ZK} {m : ZM} {q : Int → ZM → Prop} {v0 v1 v2 : Int} (h : ((5 ≤ v2 → (Ev (d + 1) M_Mo_swap 0 0 73 [(2, v0), (0, iw (v1 + 1)), zJ, zJ, zJ] [] kd m (zqI kd q))) ∧ (¬ 5 ≤ v2 → (zobj kd v0 8 ∧ (∃ q1, CtI d M_Mo_twoOf [(0, v2), (0, v1)] kd m q1 ∧ ∀ x2 m3, q1 x2 m3 → (zobj kd v0 8 ∧ (∃ q4, CtI d M_Mo_twoOf [(0, v1), (0, v2)] kd m3 q4 ∧ ∀ x5 m6, q4 x5 m6 → (zIn kd (m3 v0 2) 0 (iw (4 + x5)) ∧ zIn kd (m v0 0) 0 (iw (4 + x2)) ∧ (Ev (d + 1) M_Mo_swap 0 0 111 [(2, v0), (0, v1), (0, v2), (0, 0), zJ] [] kd (zup m6 (m v0 0) (iw (4 + x2)) (m6 (m3 v0 2) (iw (4 + x5)))) (zqI kd q)))))))))) : Ev (d + 1) M_Mo_swap 0 0 80 [(2, v0), (0, v1), (0, v2), zJ, zJ] [] kd m (zqI kd q) := by
  refine EvX.blk (pc' := 82) [(.iload_n 2, 0, 0), (.iconst 5, 0, 0)] (by decide +kernel) trivial ?_
  show Ev (d + 1) M_Mo_swap 0 0 82 [(2, v0), (0, v1), (0, v2), zJ, zJ] [(0, 5), (0, v2)] kd m (zqI kd q)
  refine EvX.icmp_ge (off := 127) (tgt := 209) (by decide +kernel) (by decide) (fun hc => ?_) (fun hc => ?_)
  · have h := h.1 hc
    refine EvX.blk (pc' := 212) [(.iinc 1 1, 0, 0)] (by decide +kernel) trivial ?_
    show Ev (d + 1) M_Mo_swap 0 0 212 [(2, v0), (0, iw (v1 + 1)), (0, v2), zJ, zJ] [] kd m (zqI kd q)
    refine EvX.goto (off := (-139)) (tgt := 73) (by decide +kernel) (by decide) ?_
    exact EvX.weak (ls2 := [(2, v0), (0, iw (v1 + 1)), zJ, zJ, zJ]) (zwk_of ⟨Or.inr rfl, Or.inr rfl, Or.inl rfl, Or.inl rfl, Or.inl rfl, trivial⟩) h
  · have h := h.2 hc
    obtain ⟨o1, h⟩ := h
    refine EvX.blk (pc' := 92) [(.aload_n 0, 0, 0), (.getfield 9, 8, 0), (.iconst 4, 0, 0), (.iload_n 2, 0, 0), (.iload_n 1, 0, 0)] (by decide +kernel) ⟨g_Mo_9, trivial⟩ ⟨o1, ?_⟩
    show Ev (d + 1) M_Mo_swap 0 0 92 [(2, v0), (0, v1), (0, v2), zJ, zJ] [(0, v1), (0, v2), (0, 4), (2, m v0 0)] kd m (zqI kd q)
    obtain ⟨q1, hq, h⟩ := h
    refine EvX.callS (mc := 0) (ms := 0) (as := [(0, v2), (0, v1)]) (st := [(0, 4), (2, m v0 0)]) (by decide +kernel) l_Mo_60 k_Mo_twoOf s_Mo_twoOf a_Mo_twoOf (by decide) (Nat.le_of_ble_eq_true rfl) hq (fun r kd1 m3 hr => ?_)
    obtain ⟨x2, rfl, hk, hr⟩ := hr
    subst kd1
    have h := h x2 m3 hr
    show Ev (d + 1) M_Mo_swap 0 0 95 [(2, v0), (0, v1), (0, v2), zJ, zJ] [(0, x2), (0, 4), (2, m v0 0)] kd m3 (zqI kd q)
    obtain ⟨o1, h⟩ := h
    refine EvX.blk (pc' := 103) [(.iadd, 0, 0), (.aload_n 0, 0, 0), (.getfield 16, 8, 2), (.iconst 4, 0, 0), (.iload_n 1, 0, 0), (.iload_n 2, 0, 0)] (by decide +kernel) ⟨g_Mo_16, trivial⟩ ⟨o1, ?_⟩
    show Ev (d + 1) M_Mo_swap 0 0 103 [(2, v0), (0, v1), (0, v2), zJ, zJ] [(0, v2), (0, v1), (0, 4), (2, m3 v0 2), (0, iw (4 + x2)), (2, m v0 0)] kd m3 (zqI kd q)
    obtain ⟨q4, hq, h⟩ := h
    refine EvX.callS (mc := 0) (ms := 0) (as := [(0, v1), (0, v2)]) (st := [(0, 4), (2, m3 v0 2), (0, iw (4 + x2)), (2, m v0 0)]) (by decide +kernel) l_Mo_60 k_Mo_twoOf s_Mo_twoOf a_Mo_twoOf (by decide) (Nat.le_of_ble_eq_true rfl) hq (fun r kd1 m6 hr => ?_)
    obtain ⟨x5, rfl, hk, hr⟩ := hr
    subst kd1
    have h := h x5 m6 hr
    show Ev (d + 1) M_Mo_swap 0 0 106 [(2, v0), (0, v1), (0, v2), zJ, zJ] [(0, x5), (0, 4), (2, m3 v0 2), (0, iw (4 + x2)), (2, m v0 0)] kd m6 (zqI kd q)
    obtain ⟨o1, o2, h⟩ := h
    refine EvX.blk (pc' := 111) [(.iadd, 0, 0), (.iaload, 0, 0), (.iastore, 0, 0), (.iconst 0, 0, 0), (.istore_n 3, 0, 0)] (by decide +kernel) trivial ⟨o1, o2, ?_⟩
    show Ev (d + 1) M_Mo_swap 0 0 111 [(2, v0), (0, v1), (0, v2), (0, 0), zJ] [] kd (zup m6 (m v0 0) (iw (4 + x2)) (m6 (m3 v0 2) (iw (4 + x5)))) (zqI kd q)
    exact h
set_option maxRecDepth 20000 in
set_option maxHeartbeats 1000000 in
theorem T_Mo_swap_111 {d : Nat} {kd : ZK} {m : ZM} {q : Int → ZM → Prop} {v0 v1 v2 v3 : Int} (h : ((4 ≤ v3 → (Ev (d + 1) M_Mo_swap 0 0 80 [(2, v0), (0, v1), (0, iw (v2 + 1)), zJ, zJ] [] kd m (zqI kd q))) ∧ (¬ 4 ≤ v3 → (Ev (d + 1) M_Mo_swap 0 0 119 [(2, v0), (0, v1), (0, v2), (0, v3), (0, 0)] [] kd m (zqI kd q))))) : Ev (d + 1) M_Mo_swap 0 0 111 [(2, v0), (0, v1), (0, v2), (0, v3), zJ] [] kd m (zqI kd q) := by
  refine EvX.blk (pc' := 113) [(.iload_n 3, 0, 0), (.iconst 4, 0, 0)] (by decide +kernel) trivial ?_
  show Ev (d + 1) M_Mo_swap 0 0 113 [(2, v0), (0, v1), (0, v2), (0, v3), zJ] [(0, 4), (0, v3)] kd m (zqI kd q)
  refine EvX.icmp_ge (off := 90) (tgt := 203) (by decide +kernel) (by decide) (fun hc => ?_) (fun hc => ?_)
  · have h := h.1 hc
    refine EvX.blk (pc' := 206) [(.iinc 2 1, 0, 0)] (by decide +kernel) trivial ?_
    show Ev (d + 1) M_Mo_swap 0 0 206 [(2, v0), (0, v1), (0, iw (v2 + 1)), (0, v3), zJ] [] kd m (zqI kd q)
    refine EvX.goto (off := (-126)) (tgt := 80) (by decide +kernel) (by decide) ?_
    exact EvX.weak (ls2 := [(2, v0), (0, v1), (0, iw (v2 + 1)), zJ, zJ]) (zwk_of ⟨Or.inr rfl, Or.inr rfl, Or.inr rfl, Or.inl rfl, Or.inl rfl, trivial⟩) h
  · have h := h.2 hc
    refine EvX.blk (pc' := 119) [(.iconst 0, 0, 0), (.istore 4, 0, 0)] (by decide +kernel) trivial ?_
    show Ev (d + 1) M_Mo_swap 0 0 119 [(2, v0), (0, v1), (0, v2), (0, v3), (0, 0)] [] kd m (zqI kd q)
    exact h
set_option maxRecDepth 20000 in
set_option maxHeartbeats 1000000 in
theorem T_Mo_swap_119 {d : Nat} {kd : ZK} {m : ZM} {q : Int → ZM → Prop} {v0 v1 v2 v3 v4 : Int} (h : ((4 ≤ v4 → (Ev (d + 1) M_Mo_swap 0 0 111 [(2, v0), (0, v1), (0, v2), (0, iw (v3 + 1)), zJ] [] kd m (zqI kd q))) ∧ (¬ 4 ≤ v4 → (zobj kd v0 8 ∧ (∃ q1, CtI d M_Mo_fourOf [(0, v2), (0, v1), (0, v4), (0, v3)] kd m q1 ∧ ∀ x2 m3, q1 x2 m3 → (zobj kd v0 8 ∧ (∃ q4, CtI d M_Mo_fourOf [(0, v1), (0, v2), (0, v3), (0, v4)] kd m3 q4 ∧ ∀ x5 m6, q4 x5 m6 → (zIn kd (m3 v0 2) 0 (iw (29 + x5)) ∧ zIn kd (m v0 0) 0 (iw (29 + x2)) ∧ zobj kd v0 8 ∧ (∃ q7, CtI d M_Mo_fourOf [(0, v2), (0, v1), (0, v4), (0, v3)] kd (zup m6 (m v0 0) (iw (29 + x2)) (m6 (m3 v0 2) (iw (29 + x5)))) q7 ∧ ∀ x8 m9, q7 x8 m9 → (zobj kd v0 8 ∧ (∃ q10, CtI d M_Mo_fourOf [(0, v1), (0, v2), (0, v3), (0, v4)] kd m9 q10 ∧ ∀ x11 m12, q10 x11 m12 → (zIn kd (m9 v0 2) 0 (iw (429 + x11)) ∧ zIn kd ((zup m6 (m v0 0) (iw (29 + x2)) (m6 (m3 v0 2) (iw (29 + x5)))) v0 0) 0 (iw (429 + x8)) ∧ (Ev (d + 1) M_Mo_swap 0 0 119 [(2, v0), (0, v1), (0, v2), (0, v3), (0, iw (v4 + 1))] [] kd (zup m12 ((zup m6 (m v0 0) (iw (29 + x2)) (m6 (m3 v0 2) (iw (29 + x5)))) v0 0) (iw (429 + x8)) (m12 (m9 v0 2) (iw (429 + x11)))) (zqI kd q)))))))))))))) : Ev (d + 1) M_Mo_swap 0 0 119 [(2, v0), (0, v1), (0, v2), (0, v3), (0, v4)] [] kd m (zqI kd q) := by
  refine EvX.blk (pc' := 122) [(.iload 4, 0, 0), (.iconst 4, 0, 0)] (by decide +kernel) trivial ?_
  show Ev (d + 1) M_Mo_swap 0 0 122 [(2, v0), (0, v1), (0, v2), (0, v3), (0, v4)] [(0, 4), (0, v4)] kd m (zqI kd q)
  refine EvX.icmp_ge (off := 75) (tgt := 197) (by decide +kernel) (by decide) (fun hc => ?_) (fun hc => ?_)
  · have h := h.1 hc
    refine EvX.blk (pc' := 200) [(.iinc 3 1, 0, 0)] (by decide +kernel) trivial ?_
    show Ev (d + 1) M_Mo_swap 0 0 200 [(2, v0), (0, v1), (0, v2), (0, iw (v3 + 1)), (0, v4)] [] kd m (zqI kd q)
    refine EvX.goto (off := (-89)) (tgt := 111) (by decide +kernel) (by decide) ?_
    exact EvX.weak (ls2 := [(2, v0), (0, v1), (0, v2), (0, iw (v3 + 1)), zJ]) (zwk_of ⟨Or.inr rfl, Or.inr rfl, Or.inr rfl, Or.inr rfl, Or.inl rfl, trivial⟩) h
  · have h := h.2 hc
    obtain ⟨o1, h⟩ := h
    refine EvX.blk (pc' := 136) [(.aload_n 0, 0, 0), (.getfield 9, 8, 0), (.bipush 29, 0, 0), (.iload_n 2, 0, 0), (.iload_n 1, 0, 0), (.iload 4, 0, 0), (.iload_n 3, 0, 0)] (by decide +kernel) ⟨g_Mo_9, trivial⟩ ⟨o1, ?_⟩
    show Ev (d + 1) M_Mo_swap 0 0 136 [(2, v0), (0, v1), (0, v2), (0, v3), (0, v4)] [(0, v3), (0, v4), (0, v1), (0, v2), (0, 29), (2, m v0 0)] kd m (zqI kd q)
    obtain ⟨q1, hq, h⟩ := h
    refine EvX.callS (mc := 0) (ms := 0) (as := [(0, v2), (0, v1), (0, v4), (0, v3)]) (st := [(0, 29), (2, m v0 0)]) (by decide +kernel) l_Mo_122 k_Mo_fourOf s_Mo_fourOf a_Mo_fourOf (by decide) (Nat.le_of_ble_eq_true rfl) hq (fun r kd1 m3 hr => ?_)
    obtain ⟨x2, rfl, hk, hr⟩ := hr
    subst kd1
    have h := h x2 m3 hr
    show Ev (d + 1) M_Mo_swap 0 0 139 [(2, v0), (0, v1), (0, v2), (0, v3), (0, v4)] [(0, x2), (0, 29), (2, m v0 0)] kd m3 (zqI kd q)
    obtain ⟨o1, h⟩ := h
    refine EvX.blk (pc' := 151) [(.iadd, 0, 0), (.aload_n 0, 0, 0), (.getfield 16, 8, 2), (.bipush 29, 0, 0), (.iload_n 1, 0, 0), (.iload_n 2, 0, 0), (.iload_n 3, 0, 0), (.iload 4, 0, 0)] (by decide +kernel) ⟨g_Mo_16, trivial⟩ ⟨o1, ?_⟩
    show Ev (d + 1) M_Mo_swap 0 0 151 [(2, v0), (0, v1), (0, v2), (0, v3), (0, v4)] [(0, v4), (0, v3), (0, v2), (0, v1), (0, 29), (2, m3 v0 2), (0, iw (29 + x2)), (2, m v0 0)] kd m3 (zqI kd q)
    obtain ⟨q4, hq, h⟩ := h
    refine EvX.callS (mc := 0) (ms := 0) (as := [(0, v1), (0, v2), (0, v3), (0, v4)]) (st := [(0, 29), (2, m3 v0 2), (0, iw (29 + x2)), (2, m v0 0)]) (by decide +kernel) l_Mo_122 k_Mo_fourOf s_Mo_fourOf a_Mo_fourOf (by decide) (Nat.le_of_ble_eq_true rfl) hq (fun r kd1 m6 hr => ?_)
    obtain ⟨x5, rfl, hk, hr⟩ := hr
    subst kd1
    have h := h x5 m6 hr
    show Ev (d + 1) M_Mo_swap 0 0 154 [(2, v0), (0, v1), (0, v2), (0, v3), (0, v4)] [(0, x5), (0, 29), (2, m3 v0 2), (0, iw (29 + x2)), (2, m v0 0)] kd m6 (zqI kd q)
    obtain ⟨o1, o2, o3, h⟩ := h
    refine EvX.blk (pc' := 169) [(.iadd, 0, 0), (.iaload, 0, 0), (.iastore, 0, 0), (.aload_n 0, 0, 0), (.getfield 9, 8, 0), (.sipush 429, 0, 0), (.iload_n 2, 0, 0), (.iload_n 1, 0, 0), (.iload 4, 0, 0), (.iload_n 3, 0, 0)] (by decide +kernel) ⟨g_Mo_9, trivial⟩ ⟨o1, o2, o3, ?_⟩
    show Ev (d + 1) M_Mo_swap 0 0 169 [(2, v0), (0, v1), (0, v2), (0, v3), (0, v4)] [(0, v3), (0, v4), (0, v1), (0, v2), (0, 429), (2, (zup m6 (m v0 0) (iw (29 + x2)) (m6 (m3 v0 2) (iw (29 + x5)))) v0 0)] kd (zup m6 (m v0 0) (iw (29 + x2)) (m6 (m3 v0 2) (iw (29 + x5)))) (zqI kd q)
    obtain ⟨q7, hq, h⟩ := h
    refine EvX.callS (mc := 0) (ms := 0) (as := [(0, v2), (0, v1), (0, v4), (0, v3)]) (st := [(0, 429), (2, (zup m6 (m v0 0) (iw (29 + x2)) (m6 (m3 v0 2) (iw (29 + x5)))) v0 0)]) (by decide +kernel) l_Mo_122 k_Mo_fourOf s_Mo_fourOf a_Mo_fourOf (by decide) (Nat.le_of_ble_eq_true rfl) hq (fun r kd1 m9 hr => ?_)
    obtain ⟨x8, rfl, hk, hr⟩ := hr
    subst kd1
    have h := h x8 m9 hr
    show Ev (d + 1) M_Mo_swap 0 0 172 [(2, v0), (0, v1), (0, v2), (0, v3), (0, v4)] [(0, x8), (0, 429), (2, (zup m6 (m v0 0) (iw (29 + x2)) (m6 (m3 v0 2) (iw (29 + x5)))) v0 0)] kd m9 (zqI kd q)
    obtain ⟨o1, h⟩ := h
    refine EvX.blk (pc' := 185) [(.iadd, 0, 0), (.aload_n 0, 0, 0), (.getfield 16, 8, 2), (.sipush 429, 0, 0), (.iload_n 1, 0, 0), (.iload_n 2, 0, 0), (.iload_n 3, 0, 0), (.iload 4, 0, 0)] (by decide +kernel) ⟨g_Mo_16, trivial⟩ ⟨o1, ?_⟩
    show Ev (d + 1) M_Mo_swap 0 0 185 [(2, v0), (0, v1), (0, v2), (0, v3), (0, v4)] [(0, v4), (0, v3), (0, v2), (0, v1), (0, 429), (2, m9 v0 2), (0, iw (429 + x8)), (2, (zup m6 (m v0 0) (iw (29 + x2)) (m6 (m3 v0 2) (iw (29 + x5)))) v0 0)] kd m9 (zqI kd q)
    obtain ⟨q10, hq, h⟩ := h
    refine EvX.callS (mc := 0) (ms := 0) (as := [(0, v1), (0, v2), (0, v3), (0, v4)]) (st := [(0, 429), (2, m9 v0 2), (0, iw (429 + x8)), (2, (zup m6 (m v0 0) (iw (29 + x2)) (m6 (m3 v0 2) (iw (29 + x5)))) v0 0)]) (by decide +kernel) l_Mo_122 k_Mo_fourOf s_Mo_fourOf a_Mo_fourOf (by decide) (Nat.le_of_ble_eq_true rfl) hq (fun r kd1 m12 hr => ?_)
    obtain ⟨x11, rfl, hk, hr⟩ := hr
    subst kd1
    have h := h x11 m12 hr
    show Ev (d + 1) M_Mo_swap 0 0 188 [(2, v0), (0, v1), (0, v2), (0, v3), (0, v4)] [(0, x11), (0, 429), (2, m9 v0 2), (0, iw (429 + x8)), (2, (zup m6 (m v0 0) (iw (29 + x2)) (m6 (m3 v0 2) (iw (29 + x5)))) v0 0)] kd m12 (zqI kd q)
    obtain ⟨o1, o2, h⟩ := h
    refine EvX.blk (pc' := 194) [(.iadd, 0, 0), (.iaload, 0, 0), (.iastore, 0, 0), (.iinc 4 1, 0, 0)] (by decide +kernel) trivial ⟨o1, o2, ?_⟩
    show Ev (d + 1) M_Mo_swap 0 0 194 [(2, v0), (0, v1), (0, v2), (0, v3), (0, iw (v4 + 1))] [] kd (zup m12 ((zup m6 (m v0 0) (iw (29 + x2)) (m6 (m3 v0 2) (iw (29 + x5)))) v0 0) (iw (429 + x8)) (m12 (m9 v0 2) (iw (429 + x11)))) (zqI kd q)
    refine EvX.goto (off := (-75)) (tgt := 119) (by decide +kernel) (by decide) ?_
    exact h
set_option maxRecDepth 20000 in
set_option maxHeartbeats 1000000 in
theorem T_Mo_copies_0 {d : Nat} {kd : ZK} {m : ZM} {q : ZM → Prop} {v0 v1 v2 v3 : Int} (h : (Ev (d + 1) M_Mo_copies 0 0 3 [(2, v0), (0, v1), (0, v2), (0, v3), (0, 0), zJ, zJ, zJ] [] kd m (zqV kd q))) : Ev (d + 1) M_Mo_copies 0 0 0 [(2, v0), (0, v1), (0, v2), (0, v3), zJ, zJ, zJ, zJ] [] kd m (zqV kd q) := by
  refine EvX.blk (pc' := 3) [(.iconst 0, 0, 0), (.istore 4, 0, 0)] (by decide +kernel) trivial ?_
  show Ev (d + 1) M_Mo_copies 0 0 3 [(2, v0), (0, v1), (0, v2), (0, v3), (0, 0), zJ, zJ, zJ] [] kd m (zqV kd q)
  exact h
theorem S_Mo_copies {d : Nat} {kd : ZK} {m : ZM} {q : ZM → Prop} {v0 v1 v2 v3 : Int} (h : (Ev (d + 1) M_Mo_copies 0 0 3 [(2, v0), (0, v1), (0, v2), (0, v3), (0, 0), zJ, zJ, zJ] [] kd m (zqV kd q))) : CtV (d + 1) M_Mo_copies [(2, v0), (0, v1), (0, v2), (0, v3)] kd m q :=
  Ct.start k_Mo_copies (Nat.le_of_ble_eq_true rfl) ⟨0, Or.inl ⟨rfl, rfl⟩⟩ (T_Mo_copies_0 h)
set_option maxRecDepth 20000 in
set_option maxHeartbeats 1000000 in
theorem T_Mo_copies_3 {d : Nat} {kd : ZK} {m : ZM} {q : ZM → Prop} {v0 v1 v2 v3 v4 : Int} (h : ((5 ≤ v4 → q m) ∧ (¬ 5 ≤ v4 → ((v1 ≠ 0 → (∃ q1, CtI d M_Mo_twoOf [(0, v4), (0, v3)] kd m q1 ∧ ∀ x2 m3, q1 x2 m3 → (Ev (d + 1) M_Mo_copies 0 0 28 [(2, v0), (0, v1), (0, v2), (0, v3), (0, v4), zJ, zJ, zJ] [(0, x2)] kd m3 (zqV kd q)))) ∧ (¬ v1 ≠ 0 → (∃ q4, CtI d M_Mo_twoOf [(0, v3), (0, v4)] kd m q4 ∧ ∀ x5 m6, q4 x5 m6 → (Ev (d + 1) M_Mo_copies 0 0 28 [(2, v0), (0, v1), (0, v2), (0, v3), (0, v4), zJ, zJ, zJ] [(0, x5)] kd m6 (zqV kd q)))))))) : Ev (d + 1) M_Mo_copies 0 0 3 [(2, v0), (0, v1), (0, v2), (0, v3), (0, v4), zJ, zJ, zJ] [] kd m (zqV kd q) := by
  refine EvX.blk (pc' := 6) [(.iload 4, 0, 0), (.iconst 5, 0, 0)] (by decide +kernel) trivial ?_
  show Ev (d + 1) M_Mo_copies 0 0 6 [(2, v0), (0, v1), (0, v2), (0, v3), (0, v4), zJ, zJ, zJ] [(0, 5), (0, v4)] kd m (zqV kd q)
  refine EvX.icmp_ge (off := 178) (tgt := 184) (by decide +kernel) (by decide) (fun hc => ?_) (fun hc => ?_)
  · have h := h.1 hc
    exact EvX.ret (r := zJ) (by decide +kernel) rfl ⟨rfl, rfl, h⟩
  · have h := h.2 hc
    refine EvX.blk (pc' := 10) [(.iload_n 1, 0, 0)] (by decide +kernel) trivial ?_
    show Ev (d + 1) M_Mo_copies 0 0 10 [(2, v0), (0, v1), (0, v2), (0, v3), (0, v4), zJ, zJ, zJ] [(0, v1)] kd m (zqV kd q)
    refine EvX.if_ne (off := 12) (tgt := 22) (by decide +kernel) (by decide) (fun hc => ?_) (fun hc => ?_)
    · have h := h.1 hc
      refine EvX.blk (pc' := 25) [(.iload 4, 0, 0), (.iload_n 3, 0, 0)] (by decide +kernel) trivial ?_
      show Ev (d + 1) M_Mo_copies 0 0 25 [(2, v0), (0, v1), (0, v2), (0, v3), (0, v4), zJ, zJ, zJ] [(0, v3), (0, v4)] kd m (zqV kd q)
      obtain ⟨q1, hq, h⟩ := h
      refine EvX.callS (mc := 0) (ms := 0) (as := [(0, v4), (0, v3)]) (st := []) (by decide +kernel) l_Mo_60 k_Mo_twoOf s_Mo_twoOf a_Mo_twoOf (by decide) (Nat.le_of_ble_eq_true rfl) hq (fun r kd1 m3 hr => ?_)
      obtain ⟨x2, rfl, hk, hr⟩ := hr
      subst kd1
      have h := h x2 m3 hr
      show Ev (d + 1) M_Mo_copies 0 0 28 [(2, v0), (0, v1), (0, v2), (0, v3), (0, v4), zJ, zJ, zJ] [(0, x2)] kd m3 (zqV kd q)
      exact h
    · have h := h.2 hc
      refine EvX.blk (pc' := 16) [(.iload_n 3, 0, 0), (.iload 4, 0, 0)] (by decide +kernel) trivial ?_
      show Ev (d + 1) M_Mo_copies 0 0 16 [(2, v0), (0, v1), (0, v2), (0, v3), (0, v4), zJ, zJ, zJ] [(0, v4), (0, v3)] kd m (zqV kd q)
      obtain ⟨q4, hq, h⟩ := h
      refine EvX.callS (mc := 0) (ms := 0) (as := [(0, v3), (0, v4)]) (st := []) (by decide +kernel) l_Mo_60 k_Mo_twoOf s_Mo_twoOf a_Mo_twoOf (by decide) (Nat.le_of_ble_eq_true rfl) hq (fun r kd1 m6 hr => ?_)
      obtain ⟨x5, rfl, hk, hr⟩ := hr
      subst kd1
      have h := h x5 m6 hr
      show Ev (d + 1) M_Mo_copies 0 0 19 [(2, v0), (0, v1), (0, v2), (0, v3), (0, v4), zJ, zJ, zJ] [(0, x5)] kd m6 (zqV kd q)
      refine EvX.goto (off := 9) (tgt := 28) (by decide +kernel) (by decide) ?_
      exact h
set_option maxRecDepth 20000 in
set_option maxHeartbeats 1000000 in
theorem T_Mo_copies_28 {d : Nat} {kd : ZK} {m : ZM} {q : ZM → Prop} {v0 v1 v2 v3 v4 s0 : Int} (h : ((v1 ≠ 0 → (∃ q1, CtI d M_Mo_twoOf [(0, v4), (0, v2)] kd m q1 ∧ ∀ x2 m3, q1 x2 m3 → (Ev (d + 1) M_Mo_copies 0 0 49 [(2, v0), (0, v1), (0, v2), (0, v3), (0, v4), (0, s0), zJ, zJ] [(0, x2)] kd m3 (zqV kd q)))) ∧ (¬ v1 ≠ 0 → (∃ q4, CtI d M_Mo_twoOf [(0, v2), (0, v4)] kd m q4 ∧ ∀ x5 m6, q4 x5 m6 → (Ev (d + 1) M_Mo_copies 0 0 49 [(2, v0), (0, v1), (0, v2), (0, v3), (0, v4), (0, s0), zJ, zJ] [(0, x5)] kd m6 (zqV kd q)))))) : Ev (d + 1) M_Mo_copies 0 0 28 [(2, v0), (0, v1), (0, v2), (0, v3), (0, v4), zJ, zJ, zJ] [(0, s0)] kd m (zqV kd q) := by
  refine EvX.blk (pc' := 31) [(.istore 5, 0, 0), (.iload_n 1, 0, 0)] (by decide +kernel) trivial ?_
  show Ev (d + 1) M_Mo_copies 0 0 31 [(2, v0), (0, v1), (0, v2), (0, v3), (0, v4), (0, s0), zJ, zJ] [(0, v1)] kd m (zqV kd q)
  refine EvX.if_ne (off := 12) (tgt := 43) (by decide +kernel) (by decide) (fun hc => ?_) (fun hc => ?_)
  · have h := h.1 hc
    refine EvX.blk (pc' := 46) [(.iload 4, 0, 0), (.iload_n 2, 0, 0)] (by decide +kernel) trivial ?_
    show Ev (d + 1) M_Mo_copies 0 0 46 [(2, v0), (0, v1), (0, v2), (0, v3), (0, v4), (0, s0), zJ, zJ] [(0, v2), (0, v4)] kd m (zqV kd q)
    obtain ⟨q1, hq, h⟩ := h
    refine EvX.callS (mc := 0) (ms := 0) (as := [(0, v4), (0, v2)]) (st := []) (by decide +kernel) l_Mo_60 k_Mo_twoOf s_Mo_twoOf a_Mo_twoOf (by decide) (Nat.le_of_ble_eq_true rfl) hq (fun r kd1 m3 hr => ?_)
    obtain ⟨x2, rfl, hk, hr⟩ := hr
    subst kd1
    have h := h x2 m3 hr
    show Ev (d + 1) M_Mo_copies 0 0 49 [(2, v0), (0, v1), (0, v2), (0, v3), (0, v4), (0, s0), zJ, zJ] [(0, x2)] kd m3 (zqV kd q)
    exact h
  · have h := h.2 hc
    refine EvX.blk (pc' := 37) [(.iload_n 2, 0, 0), (.iload 4, 0, 0)] (by decide +kernel) trivial ?_
    show Ev (d + 1) M_Mo_copies 0 0 37 [(2, v0), (0, v1), (0, v2), (0, v3), (0, v4), (0, s0), zJ, zJ] [(0, v4), (0, v2)] kd m (zqV kd q)
    obtain ⟨q4, hq, h⟩ := h
    refine EvX.callS (mc := 0) (ms := 0) (as := [(0, v2), (0, v4)]) (st := []) (by decide +kernel) l_Mo_60 k_Mo_twoOf s_Mo_twoOf a_Mo_twoOf (by decide) (Nat.le_of_ble_eq_true rfl) hq (fun r kd1 m6 hr => ?_)
    obtain ⟨x5, rfl, hk, hr⟩ := hr
    subst kd1
    have h := h x5 m6 hr
    show Ev (d + 1) M_Mo_copies 0 0 40 [(2, v0), (0, v1), (0, v2), (0, v3), (0, v4), (0, s0), zJ, zJ] [(0, x5)] kd m6 (zqV kd q)
    refine EvX.goto (off := 9) (tgt := 49) (by decide +kernel) (by decide) ?_
    exact h
set_option maxRecDepth 20000 in
set_option maxHeartbeats 1000000 in
theorem T_Mo_copies_49 {d : Nat} {kd : ZK} {m : ZM} {q : ZM → Prop} {v0 v1 v2 v3 v4 v5 s0 : Int} (h : (zobj kd v0 8 ∧ ((v2 ≠ (-1) → (zobj kd v0 8 ∧ zIn kd (m v0 0) 0 (iw (4 + s0)) ∧ zIn kd (m v0 0) 0 (iw (4 + v5)) ∧ (Ev (d + 1) M_Mo_copies 0 0 81 [(2, v0), (0, v1), (0, v2), (0, v3), (0, v4), (0, v5), (0, s0), (0, 0)] [] kd (zup m (m v0 0) (iw (4 + v5)) (m (m v0 0) (iw (4 + s0)))) (zqV kd q)))) ∧ (¬ v2 ≠ (-1) → (zIn kd (m v0 0) 0 (iw (4 + v5)) ∧ (Ev (d + 1) M_Mo_copies 0 0 81 [(2, v0), (0, v1), (0, v2), (0, v3), (0, v4), (0, v5), (0, s0), (0, 0)] [] kd (zup m (m v0 0) (iw (4 + v5)) 0) (zqV kd q))))))) : Ev (d + 1) M_Mo_copies 0 0 49 [(2, v0), (0, v1), (0, v2), (0, v3), (0, v4), (0, v5), zJ, zJ] [(0, s0)] kd m (zqV kd q) := by
  obtain ⟨o1, h⟩ := h
  refine EvX.blk (pc' := 61) [(.istore 6, 0, 0), (.aload_n 0, 0, 0), (.getfield 9, 8, 0), (.iconst 4, 0, 0), (.iload 5, 0, 0), (.iadd, 0, 0), (.iload_n 2, 0, 0), (.iconst (-1), 0, 0)] (by decide +kernel) ⟨g_Mo_9, trivial⟩ ⟨o1, ?_⟩
  show Ev (d + 1) M_Mo_copies 0 0 61 [(2, v0), (0, v1), (0, v2), (0, v3), (0, v4), (0, v5), (0, s0), zJ] [(0, (-1)), (0, v2), (0, iw (4 + v5)), (2, m v0 0)] kd m (zqV kd q)
  refine EvX.icmp_ne (off := 7) (tgt := 68) (by decide +kernel) (by decide) (fun hc => ?_) (fun hc => ?_)
  · have h := h.1 hc
    obtain ⟨o1, o2, o3, h⟩ := h
    refine EvX.blk (pc' := 81) [(.aload_n 0, 0, 0), (.getfield 9, 8, 0), (.iconst 4, 0, 0), (.iload 6, 0, 0), (.iadd, 0, 0), (.iaload, 0, 0), (.iastore, 0, 0), (.iconst 0, 0, 0), (.istore 7, 0, 0)] (by decide +kernel) ⟨g_Mo_9, trivial⟩ ⟨o1, o2, o3, ?_⟩
    show Ev (d + 1) M_Mo_copies 0 0 81 [(2, v0), (0, v1), (0, v2), (0, v3), (0, v4), (0, v5), (0, s0), (0, 0)] [] kd (zup m (m v0 0) (iw (4 + v5)) (m (m v0 0) (iw (4 + s0)))) (zqV kd q)
    exact h
  · have h := h.2 hc
    refine EvX.blk (pc' := 65) [(.iconst 0, 0, 0)] (by decide +kernel) trivial ?_
    show Ev (d + 1) M_Mo_copies 0 0 65 [(2, v0), (0, v1), (0, v2), (0, v3), (0, v4), (0, v5), (0, s0), zJ] [(0, 0), (0, iw (4 + v5)), (2, m v0 0)] kd m (zqV kd q)
    refine EvX.goto (off := 12) (tgt := 77) (by decide +kernel) (by decide) ?_
    obtain ⟨o1, h⟩ := h
    refine EvX.blk (pc' := 81) [(.iastore, 0, 0), (.iconst 0, 0, 0), (.istore 7, 0, 0)] (by decide +kernel) trivial ⟨o1, ?_⟩
    show Ev (d + 1) M_Mo_copies 0 0 81 [(2, v0), (0, v1), (0, v2), (0, v3), (0, v4), (0, v5), (0, s0), (0, 0)] [] kd (zup m (m v0 0) (iw (4 + v5)) 0) (zqV kd q)
    exact h
set_option maxRecDepth 20000 in
set_option maxHeartbeats 1000000 in
theorem T_Mo_copies_81 {d : Nat} {kd : ZK} {m : ZM} {q : ZM → Prop} {v0 v1 v2 v3 v4 v5 v6 v7 : Int} (h : ((16 ≤ v7 → (Ev (d + 1) M_Mo_copies 0 0 3 [(2, v0), (0, v1), (0, v2), (0, v3), (0, iw (v4 + 1)), zJ, zJ, zJ] [] kd m (zqV kd q))) ∧ (¬ 16 ≤ v7 → (zobj kd v0 8 ∧ ((v2 ≠ (-1) → (zobj kd v0 8 ∧ zIn kd (m v0 0) 0 (iw ((iw (29 + (iw (16 * v6)))) + v7)) ∧ (Ev (d + 1) M_Mo_copies 0 0 128 [(2, v0), (0, v1), (0, v2), (0, v3), (0, v4), (0, v5), (0, v6), (0, v7)] [(0, m (m v0 0) (iw ((iw (29 + (iw (16 * v6)))) + v7))), (0, iw ((iw (29 + (iw (16 * v5)))) + v7)), (2, m v0 0)] kd m (zqV kd q)))) ∧ (¬ v2 ≠ (-1) → (Ev (d + 1) M_Mo_copies 0 0 128 [(2, v0), (0, v1), (0, v2), (0, v3), (0, v4), (0, v5), (0, v6), (0, v7)] [(0, 0), (0, iw ((iw (29 + (iw (16 * v5)))) + v7)), (2, m v0 0)] kd m (zqV kd q)))))))) : Ev (d + 1) M_Mo_copies 0 0 81 [(2, v0), (0, v1), (0, v2), (0, v3), (0, v4), (0, v5), (0, v6), (0, v7)] [] kd m (zqV kd q) := by
  refine EvX.blk (pc' := 85) [(.iload 7, 0, 0), (.bipush 16, 0, 0)] (by decide +kernel) trivial ?_
  show Ev (d + 1) M_Mo_copies 0 0 85 [(2, v0), (0, v1), (0, v2), (0, v3), (0, v4), (0, v5), (0, v6), (0, v7)] [(0, 16), (0, v7)] kd m (zqV kd q)
  refine EvX.icmp_ge (off := 93) (tgt := 178) (by decide +kernel) (by decide) (fun hc => ?_) (fun hc => ?_)
  · have h := h.1 hc
    refine EvX.blk (pc' := 181) [(.iinc 4 1, 0, 0)] (by decide +kernel) trivial ?_
    show Ev (d + 1) M_Mo_copies 0 0 181 [(2, v0), (0, v1), (0, v2), (0, v3), (0, iw (v4 + 1)), (0, v5), (0, v6), (0, v7)] [] kd m (zqV kd q)
    refine EvX.goto (off := (-178)) (tgt := 3) (by decide +kernel) (by decide) ?_
    exact EvX.weak (ls2 := [(2, v0), (0, v1), (0, v2), (0, v3), (0, iw (v4 + 1)), zJ, zJ, zJ]) (zwk_of ⟨Or.inr rfl, Or.inr rfl, Or.inr rfl, Or.inr rfl, Or.inr rfl, Or.inl rfl, Or.inl rfl, Or.inl rfl, trivial⟩) h
  · have h := h.2 hc
    obtain ⟨o1, h⟩ := h
    refine EvX.blk (pc' := 105) [(.aload_n 0, 0, 0), (.getfield 9, 8, 0), (.bipush 29, 0, 0), (.bipush 16, 0, 0), (.iload 5, 0, 0), (.imul, 0, 0), (.iadd, 0, 0), (.iload 7, 0, 0), (.iadd, 0, 0), (.iload_n 2, 0, 0), (.iconst (-1), 0, 0)] (by decide +kernel) ⟨g_Mo_9, trivial⟩ ⟨o1, ?_⟩
    show Ev (d + 1) M_Mo_copies 0 0 105 [(2, v0), (0, v1), (0, v2), (0, v3), (0, v4), (0, v5), (0, v6), (0, v7)] [(0, (-1)), (0, v2), (0, iw ((iw (29 + (iw (16 * v5)))) + v7)), (2, m v0 0)] kd m (zqV kd q)
    refine EvX.icmp_ne (off := 7) (tgt := 112) (by decide +kernel) (by decide) (fun hc => ?_) (fun hc => ?_)
    · have h := h.1 hc
      obtain ⟨o1, o2, h⟩ := h
      refine EvX.blk (pc' := 128) [(.aload_n 0, 0, 0), (.getfield 9, 8, 0), (.bipush 29, 0, 0), (.bipush 16, 0, 0), (.iload 6, 0, 0), (.imul, 0, 0), (.iadd, 0, 0), (.iload 7, 0, 0), (.iadd, 0, 0), (.iaload, 0, 0)] (by decide +kernel) ⟨g_Mo_9, trivial⟩ ⟨o1, o2, ?_⟩
      show Ev (d + 1) M_Mo_copies 0 0 128 [(2, v0), (0, v1), (0, v2), (0, v3), (0, v4), (0, v5), (0, v6), (0, v7)] [(0, m (m v0 0) (iw ((iw (29 + (iw (16 * v6)))) + v7))), (0, iw ((iw (29 + (iw (16 * v5)))) + v7)), (2, m v0 0)] kd m (zqV kd q)
      exact h
    · have h := h.2 hc
      refine EvX.blk (pc' := 109) [(.iconst 0, 0, 0)] (by decide +kernel) trivial ?_
      show Ev (d + 1) M_Mo_copies 0 0 109 [(2, v0), (0, v1), (0, v2), (0, v3), (0, v4), (0, v5), (0, v6), (0, v7)] [(0, 0), (0, iw ((iw (29 + (iw (16 * v5)))) + v7)), (2, m v0 0)] kd m (zqV kd q)
      refine EvX.goto (off := 19) (tgt := 128) (by decide +kernel) (by decide) ?_
      exact h
set_option maxRecDepth 20000 in
set_option maxHeartbeats 1000000 in
theorem T_Mo_copies_128 {d : Nat} {kd : ZK} {m : ZM} {q : ZM → Prop} {v0 v1 v2 v3 v4 v5 v6 v7 s0 s1 s2 : Int} (h : (zIn kd s0 0 s1 ∧ zobj kd v0 8 ∧ ((v2 ≠ (-1) → (zobj kd v0 8 ∧ zIn kd ((zup m s0 s1 s2) v0 0) 0 (iw ((iw (429 + (iw (16 * v6)))) + v7)) ∧ zIn kd ((zup m s0 s1 s2) v0 0) 0 (iw ((iw (429 + (iw (16 * v5)))) + v7)) ∧ (Ev (d + 1) M_Mo_copies 0 0 81 [(2, v0), (0, v1), (0, v2), (0, v3), (0, v4), (0, v5), (0, v6), (0, iw (v7 + 1))] [] kd (zup (zup m s0 s1 s2) ((zup m s0 s1 s2) v0 0) (iw ((iw (429 + (iw (16 * v5)))) + v7)) ((zup m s0 s1 s2) ((zup m s0 s1 s2) v0 0) (iw ((iw (429 + (iw (16 * v6)))) + v7)))) (zqV kd q)))) ∧ (¬ v2 ≠ (-1) → (zIn kd ((zup m s0 s1 s2) v0 0) 0 (iw ((iw (429 + (iw (16 * v5)))) + v7)) ∧ (Ev (d + 1) M_Mo_copies 0 0 81 [(2, v0), (0, v1), (0, v2), (0, v3), (0, v4), (0, v5), (0, v6), (0, iw (v7 + 1))] [] kd (zup (zup m s0 s1 s2) ((zup m s0 s1 s2) v0 0) (iw ((iw (429 + (iw (16 * v5)))) + v7)) 0) (zqV kd q))))))) : Ev (d + 1) M_Mo_copies 0 0 128 [(2, v0), (0, v1), (0, v2), (0, v3), (0, v4), (0, v5), (0, v6), (0, v7)] [(0, s2), (0, s1), (2, s0)] kd m (zqV kd q) := by
  obtain ⟨o1, o2, h⟩ := h
  refine EvX.blk (pc' := 147) [(.iastore, 0, 0), (.aload_n 0, 0, 0), (.getfield 9, 8, 0), (.sipush 429, 0, 0), (.bipush 16, 0, 0), (.iload 5, 0, 0), (.imul, 0, 0), (.iadd, 0, 0), (.iload 7, 0, 0), (.iadd, 0, 0), (.iload_n 2, 0, 0), (.iconst (-1), 0, 0)] (by decide +kernel) ⟨g_Mo_9, trivial⟩ ⟨o1, o2, ?_⟩
  show Ev (d + 1) M_Mo_copies 0 0 147 [(2, v0), (0, v1), (0, v2), (0, v3), (0, v4), (0, v5), (0, v6), (0, v7)] [(0, (-1)), (0, v2), (0, iw ((iw (429 + (iw (16 * v5)))) + v7)), (2, (zup m s0 s1 s2) v0 0)] kd (zup m s0 s1 s2) (zqV kd q)
  refine EvX.icmp_ne (off := 7) (tgt := 154) (by decide +kernel) (by decide) (fun hc => ?_) (fun hc => ?_)
  · have h := h.1 hc
    obtain ⟨o1, o2, o3, h⟩ := h
    refine EvX.blk (pc' := 175) [(.aload_n 0, 0, 0), (.getfield 9, 8, 0), (.sipush 429, 0, 0), (.bipush 16, 0, 0), (.iload 6, 0, 0), (.imul, 0, 0), (.iadd, 0, 0), (.iload 7, 0, 0), (.iadd, 0, 0), (.iaload, 0, 0), (.iastore, 0, 0), (.iinc 7 1, 0, 0)] (by decide +kernel) ⟨g_Mo_9, trivial⟩ ⟨o1, o2, o3, ?_⟩
    show Ev (d + 1) M_Mo_copies 0 0 175 [(2, v0), (0, v1), (0, v2), (0, v3), (0, v4), (0, v5), (0, v6), (0, iw (v7 + 1))] [] kd (zup (zup m s0 s1 s2) ((zup m s0 s1 s2) v0 0) (iw ((iw (429 + (iw (16 * v5)))) + v7)) ((zup m s0 s1 s2) ((zup m s0 s1 s2) v0 0) (iw ((iw (429 + (iw (16 * v6)))) + v7)))) (zqV kd q)
    refine EvX.goto (off := (-94)) (tgt := 81) (by decide +kernel) (by decide) ?_
    exact h
  · have h := h.2 hc
    refine EvX.blk (pc' := 151) [(.iconst 0, 0, 0)] (by decide +kernel) trivial ?_
    show Ev (d + 1) M_Mo_copies 0 0 151 [(2, v0), (0, v1), (0, v2), (0, v3), (0, v4), (0, v5), (0, v6), (0, v7)] [(0, 0), (0, iw ((iw (429 + (iw (16 * v5)))) + v7)), (2, (zup m s0 s1 s2) v0 0)] kd (zup m s0 s1 s2) (zqV kd q)
    refine EvX.goto (off := 20) (tgt := 171) (by decide +kernel) (by decide) ?_
    obtain ⟨o1, h⟩ := h
    refine EvX.blk (pc' := 175) [(.iastore, 0, 0), (.iinc 7 1, 0, 0)] (by decide +kernel) trivial ⟨o1, ?_⟩
    show Ev (d + 1) M_Mo_copies 0 0 175 [(2, v0), (0, v1), (0, v2), (0, v3), (0, v4), (0, v5), (0, v6), (0, iw (v7 + 1))] [] kd (zup (zup m s0 s1 s2) ((zup m s0 s1 s2) v0 0) (iw ((iw (429 + (iw (16 * v5)))) + v7)) 0) (zqV kd q)
    refine EvX.goto (off := (-94)) (tgt := 81) (by decide +kernel) (by decide) ?_
    exact h
set_option maxRecDepth 20000 in
set_option maxHeartbeats 1000000 in
theorem T_Mo_drop_0 {d : Nat} {kd : ZK} {m : ZM} {q : Int → ZM → Prop} {v0 v1 v2 : Int} (h : (∃ q1, CtI d M_Mo_isPlayer [(0, v1)] kd m q1 ∧ ∀ x2 m3, q1 x2 m3 → ((x2 = 0 → q (-1) m3) ∧ (¬ x2 = 0 → (zobj kd v0 8 ∧ ∃ q4, CtI d M_Mo_isQuestion [(2, v0), (0, v1), (0, v2)] kd m3 q4 ∧ ∀ x5 m6, q4 x5 m6 → ((x5 ≠ 0 → (zobj kd v0 8 ∧ ∃ q7, CtI d M_Mo_questions [(2, v0), (0, v1)] kd m6 q7 ∧ ∀ x8 m9, q7 x8 m9 → ((x8 ≠ 1 → (zobj kd v0 8 ∧ ∃ q10, CtV d M_Mo_keepsPast [(2, v0)] kd m9 q10 ∧ ∀ m12, q10 m12 → (Ev (d + 1) M_Mo_drop 0 0 36 [(2, v0), (0, v1), zJ, (0, v2)] [] kd m12 (zqI kd q)))) ∧ (¬ x8 ≠ 1 → q (-2) m9)))) ∧ (¬ x5 ≠ 0 → q (-1) m6))))))) : Ev (d + 1) M_Mo_drop 0 0 0 [(2, v0), (0, v1), (0, v2), zJ] [] kd m (zqI kd q) := by
  refine EvX.blk (pc' := 1) [(.iload_n 1, 0, 0)] (by decide +kernel) trivial ?_
  show Ev (d + 1) M_Mo_drop 0 0 1 [(2, v0), (0, v1), (0, v2), zJ] [(0, v1)] kd m (zqI kd q)
  obtain ⟨q1, hq, h⟩ := h
  refine EvX.callS (mc := 0) (ms := 0) (as := [(0, v1)]) (st := []) (by decide +kernel) l_Mo_208 k_Mo_isPlayer s_Mo_isPlayer a_Mo_isPlayer (by decide) (Nat.le_of_ble_eq_true rfl) hq (fun r kd1 m3 hr => ?_)
  obtain ⟨x2, rfl, hk, hr⟩ := hr
  subst kd1
  have h := h x2 m3 hr
  show Ev (d + 1) M_Mo_drop 0 0 4 [(2, v0), (0, v1), (0, v2), zJ] [(0, x2)] kd m3 (zqI kd q)
  refine EvX.if_eq (off := 12) (tgt := 16) (by decide +kernel) (by decide) (fun hc => ?_) (fun hc => ?_)
  · have h := h.1 hc
    refine EvX.blk (pc' := 17) [(.iconst (-1), 0, 0)] (by decide +kernel) trivial ?_
    show Ev (d + 1) M_Mo_drop 0 0 17 [(2, v0), (0, v1), (0, v2), zJ] [(0, (-1))] kd m3 (zqI kd q)
    exact EvX.ret (r := (0, (-1))) (by decide +kernel) rfl ⟨_, rfl, rfl, h⟩
  · have h := h.2 hc
    refine EvX.blk (pc' := 10) [(.aload_n 0, 0, 0), (.iload_n 1, 0, 0), (.iload_n 2, 0, 0)] (by decide +kernel) trivial ?_
    show Ev (d + 1) M_Mo_drop 0 0 10 [(2, v0), (0, v1), (0, v2), zJ] [(0, v2), (0, v1), (2, v0)] kd m3 (zqI kd q)
    obtain ⟨ov, h⟩ := h
    obtain ⟨q4, hq, h⟩ := h
    refine EvX.callV (c := 8) (mc := 0) (ms := 0) (as := [(0, v1), (0, v2)]) (st := []) (by decide +kernel) l_Mo_170 k_Mo_isQuestion v_Mo_isQuestion a_Mo_isQuestion (by decide) (Nat.le_of_ble_eq_true rfl) rfl ov hq (fun r kd1 m6 hr => ?_)
    obtain ⟨x5, rfl, hk, hr⟩ := hr
    subst kd1
    have h := h x5 m6 hr
    show Ev (d + 1) M_Mo_drop 0 0 13 [(2, v0), (0, v1), (0, v2), zJ] [(0, x5)] kd m6 (zqI kd q)
    refine EvX.if_ne (off := 5) (tgt := 18) (by decide +kernel) (by decide) (fun hc => ?_) (fun hc => ?_)
    · have h := h.1 hc
      refine EvX.blk (pc' := 20) [(.aload_n 0, 0, 0), (.iload_n 1, 0, 0)] (by decide +kernel) trivial ?_
      show Ev (d + 1) M_Mo_drop 0 0 20 [(2, v0), (0, v1), (0, v2), zJ] [(0, v1), (2, v0)] kd m6 (zqI kd q)
      obtain ⟨ov, h⟩ := h
      obtain ⟨q7, hq, h⟩ := h
      refine EvX.callV (c := 8) (mc := 0) (ms := 0) (as := [(0, v1)]) (st := []) (by decide +kernel) l_Mo_163 k_Mo_questions v_Mo_questions a_Mo_questions (by decide) (Nat.le_of_ble_eq_true rfl) rfl ov hq (fun r kd1 m9 hr => ?_)
      obtain ⟨x8, rfl, hk, hr⟩ := hr
      subst kd1
      have h := h x8 m9 hr
      show Ev (d + 1) M_Mo_drop 0 0 23 [(2, v0), (0, v1), (0, v2), zJ] [(0, x8)] kd m9 (zqI kd q)
      refine EvX.blk (pc' := 24) [(.iconst 1, 0, 0)] (by decide +kernel) trivial ?_
      show Ev (d + 1) M_Mo_drop 0 0 24 [(2, v0), (0, v1), (0, v2), zJ] [(0, 1), (0, x8)] kd m9 (zqI kd q)
      refine EvX.icmp_ne (off := 6) (tgt := 30) (by decide +kernel) (by decide) (fun hc => ?_) (fun hc => ?_)
      · have h := h.1 hc
        refine EvX.blk (pc' := 31) [(.aload_n 0, 0, 0)] (by decide +kernel) trivial ?_
        show Ev (d + 1) M_Mo_drop 0 0 31 [(2, v0), (0, v1), (0, v2), zJ] [(2, v0)] kd m9 (zqI kd q)
        obtain ⟨ov, h⟩ := h
        obtain ⟨q10, hq, h⟩ := h
        refine EvX.callV (c := 8) (mc := 0) (ms := 0) (as := []) (st := []) (by decide +kernel) l_Mo_183 k_Mo_keepsPast v_Mo_keepsPast a_Mo_keepsPast (by decide) (Nat.le_of_ble_eq_true rfl) rfl ov hq (fun r kd1 m12 hr => ?_)
        obtain ⟨rfl, hk, hr⟩ := hr
        subst kd1
        have h := h m12 hr
        show Ev (d + 1) M_Mo_drop 0 0 34 [(2, v0), (0, v1), (0, v2), zJ] [] kd m12 (zqI kd q)
        refine EvX.blk (pc' := 36) [(.iload_n 2, 0, 0), (.istore_n 3, 0, 0)] (by decide +kernel) trivial ?_
        show Ev (d + 1) M_Mo_drop 0 0 36 [(2, v0), (0, v1), (0, v2), (0, v2)] [] kd m12 (zqI kd q)
        exact EvX.weak (ls2 := [(2, v0), (0, v1), zJ, (0, v2)]) (zwk_of ⟨Or.inr rfl, Or.inr rfl, Or.inl rfl, Or.inr rfl, trivial⟩) h
      · have h := h.2 hc
        refine EvX.blk (pc' := 29) [(.bipush (-2), 0, 0)] (by decide +kernel) trivial ?_
        show Ev (d + 1) M_Mo_drop 0 0 29 [(2, v0), (0, v1), (0, v2), zJ] [(0, (-2))] kd m9 (zqI kd q)
        exact EvX.ret (r := (0, (-2))) (by decide +kernel) rfl ⟨_, rfl, rfl, h⟩
    · have h := h.2 hc
      refine EvX.blk (pc' := 17) [(.iconst (-1), 0, 0)] (by decide +kernel) trivial ?_
      show Ev (d + 1) M_Mo_drop 0 0 17 [(2, v0), (0, v1), (0, v2), zJ] [(0, (-1))] kd m6 (zqI kd q)
      exact EvX.ret (r := (0, (-1))) (by decide +kernel) rfl ⟨_, rfl, rfl, h⟩
theorem S_Mo_drop {d : Nat} {kd : ZK} {m : ZM} {q : Int → ZM → Prop} {v0 v1 v2 : Int} (h : (∃ q1, CtI d M_Mo_isPlayer [(0, v1)] kd m q1 ∧ ∀ x2 m3, q1 x2 m3 → ((x2 = 0 → q (-1) m3) ∧ (¬ x2 = 0 → (zobj kd v0 8 ∧ ∃ q4, CtI d M_Mo_isQuestion [(2, v0), (0, v1), (0, v2)] kd m3 q4 ∧ ∀ x5 m6, q4 x5 m6 → ((x5 ≠ 0 → (zobj kd v0 8 ∧ ∃ q7, CtI d M_Mo_questions [(2, v0), (0, v1)] kd m6 q7 ∧ ∀ x8 m9, q7 x8 m9 → ((x8 ≠ 1 → (zobj kd v0 8 ∧ ∃ q10, CtV d M_Mo_keepsPast [(2, v0)] kd m9 q10 ∧ ∀ m12, q10 m12 → (Ev (d + 1) M_Mo_drop 0 0 36 [(2, v0), (0, v1), zJ, (0, v2)] [] kd m12 (zqI kd q)))) ∧ (¬ x8 ≠ 1 → q (-2) m9)))) ∧ (¬ x5 ≠ 0 → q (-1) m6))))))) : CtI (d + 1) M_Mo_drop [(2, v0), (0, v1), (0, v2)] kd m q :=
  Ct.start k_Mo_drop (Nat.le_of_ble_eq_true rfl) ⟨1, Or.inr (Or.inl ⟨rfl, rfl⟩)⟩ (T_Mo_drop_0 h)
set_option maxRecDepth 20000 in
set_option maxHeartbeats 1000000 in
theorem T_Mo_drop_36 {d : Nat} {kd : ZK} {m : ZM} {q : Int → ZM → Prop} {v0 v1 v3 : Int} (h : (zobj kd v0 8 ∧ ∃ q1, CtI d M_Mo_questions [(2, v0), (0, v1)] kd m q1 ∧ ∀ x2 m3, q1 x2 m3 → ((x2 ≤ (iw (v3 + 1)) → (zobj kd v0 8 ∧ zIn kd (m3 v0 0) 0 (iw (0 + v1)) ∧ zIn kd (m3 v0 0) 0 (iw (0 + v1)) ∧ (zobj kd v0 8 ∧ ∃ q4, CtI d M_Mo_questions [(2, v0), (0, v1)] kd (zup m3 (m3 v0 0) (iw (0 + v1)) (iw ((m3 (m3 v0 0) (iw (0 + v1))) - 1))) q4 ∧ ∀ x5 m6, q4 x5 m6 → (zobj kd v0 8 ∧ ∃ q7, CtV d M_Mo_copies [(2, v0), (0, v1), (0, (-1)), (0, x5)] kd m6 q7 ∧ ∀ m9, q7 m9 → (zobj kd v0 8 ∧ ∃ q10, CtI d M_Mo_questions [(2, v0), (0, v1)] kd m9 q10 ∧ ∀ x11 m12, q10 x11 m12 → q x11 m12))))) ∧ (¬ x2 ≤ (iw (v3 + 1)) → (zobj kd v0 8 ∧ ∃ q13, CtV d M_Mo_copies [(2, v0), (0, v1), (0, iw (v3 + 1)), (0, v3)] kd m3 q13 ∧ ∀ m15, q13 m15 → (Ev (d + 1) M_Mo_drop 0 0 36 [(2, v0), (0, v1), zJ, (0, iw (v3 + 1))] [] kd m15 (zqI kd q))))))) : Ev (d + 1) M_Mo_drop 0 0 36 [(2, v0), (0, v1), zJ, (0, v3)] [] kd m (zqI kd q) := by
  refine EvX.blk (pc' := 41) [(.iload_n 3, 0, 0), (.iconst 1, 0, 0), (.iadd, 0, 0), (.aload_n 0, 0, 0), (.iload_n 1, 0, 0)] (by decide +kernel) trivial ?_
  show Ev (d + 1) M_Mo_drop 0 0 41 [(2, v0), (0, v1), zJ, (0, v3)] [(0, v1), (2, v0), (0, iw (v3 + 1))] kd m (zqI kd q)
  obtain ⟨ov, h⟩ := h
  obtain ⟨q1, hq, h⟩ := h
  refine EvX.callV (c := 8) (mc := 0) (ms := 0) (as := [(0, v1)]) (st := [(0, iw (v3 + 1))]) (by decide +kernel) l_Mo_163 k_Mo_questions v_Mo_questions a_Mo_questions (by decide) (Nat.le_of_ble_eq_true rfl) rfl ov hq (fun r kd1 m3 hr => ?_)
  obtain ⟨x2, rfl, hk, hr⟩ := hr
  subst kd1
  have h := h x2 m3 hr
  show Ev (d + 1) M_Mo_drop 0 0 44 [(2, v0), (0, v1), zJ, (0, v3)] [(0, x2), (0, iw (v3 + 1))] kd m3 (zqI kd q)
  refine EvX.icmp_ge (off := 18) (tgt := 62) (by decide +kernel) (by decide) (fun hc => ?_) (fun hc => ?_)
  · have h := h.1 hc
    obtain ⟨o1, o2, o3, h⟩ := h
    refine EvX.blk (pc' := 79) [(.aload_n 0, 0, 0), (.getfield 9, 8, 0), (.iconst 0, 0, 0), (.iload_n 1, 0, 0), (.iadd, 0, 0), (.dup2, 0, 0), (.iaload, 0, 0), (.iconst 1, 0, 0), (.isub, 0, 0), (.iastore, 0, 0), (.aload_n 0, 0, 0), (.iload_n 1, 0, 0), (.iconst (-1), 0, 0), (.aload_n 0, 0, 0), (.iload_n 1, 0, 0)] (by decide +kernel) ⟨g_Mo_9, trivial⟩ ⟨o1, o2, o3, ?_⟩
    show Ev (d + 1) M_Mo_drop 0 0 79 [(2, v0), (0, v1), zJ, (0, v3)] [(0, v1), (2, v0), (0, (-1)), (0, v1), (2, v0)] kd (zup m3 (m3 v0 0) (iw (0 + v1)) (iw ((m3 (m3 v0 0) (iw (0 + v1))) - 1))) (zqI kd q)
    obtain ⟨ov, h⟩ := h
    obtain ⟨q4, hq, h⟩ := h
    refine EvX.callV (c := 8) (mc := 0) (ms := 0) (as := [(0, v1)]) (st := [(0, (-1)), (0, v1), (2, v0)]) (by decide +kernel) l_Mo_163 k_Mo_questions v_Mo_questions a_Mo_questions (by decide) (Nat.le_of_ble_eq_true rfl) rfl ov hq (fun r kd1 m6 hr => ?_)
    obtain ⟨x5, rfl, hk, hr⟩ := hr
    subst kd1
    have h := h x5 m6 hr
    show Ev (d + 1) M_Mo_drop 0 0 82 [(2, v0), (0, v1), zJ, (0, v3)] [(0, x5), (0, (-1)), (0, v1), (2, v0)] kd m6 (zqI kd q)
    obtain ⟨ov, h⟩ := h
    obtain ⟨q7, hq, h⟩ := h
    refine EvX.callV (c := 8) (mc := 0) (ms := 0) (as := [(0, v1), (0, (-1)), (0, x5)]) (st := []) (by decide +kernel) l_Mo_218 k_Mo_copies v_Mo_copies a_Mo_copies (by decide) (Nat.le_of_ble_eq_true rfl) rfl ov hq (fun r kd1 m9 hr => ?_)
    obtain ⟨rfl, hk, hr⟩ := hr
    subst kd1
    have h := h m9 hr
    show Ev (d + 1) M_Mo_drop 0 0 85 [(2, v0), (0, v1), zJ, (0, v3)] [] kd m9 (zqI kd q)
    refine EvX.blk (pc' := 87) [(.aload_n 0, 0, 0), (.iload_n 1, 0, 0)] (by decide +kernel) trivial ?_
    show Ev (d + 1) M_Mo_drop 0 0 87 [(2, v0), (0, v1), zJ, (0, v3)] [(0, v1), (2, v0)] kd m9 (zqI kd q)
    obtain ⟨ov, h⟩ := h
    obtain ⟨q10, hq, h⟩ := h
    refine EvX.callV (c := 8) (mc := 0) (ms := 0) (as := [(0, v1)]) (st := []) (by decide +kernel) l_Mo_163 k_Mo_questions v_Mo_questions a_Mo_questions (by decide) (Nat.le_of_ble_eq_true rfl) rfl ov hq (fun r kd1 m12 hr => ?_)
    obtain ⟨x11, rfl, hk, hr⟩ := hr
    subst kd1
    have h := h x11 m12 hr
    show Ev (d + 1) M_Mo_drop 0 0 90 [(2, v0), (0, v1), zJ, (0, v3)] [(0, x11)] kd m12 (zqI kd q)
    exact EvX.ret (r := (0, x11)) (by decide +kernel) rfl ⟨_, rfl, rfl, h⟩
  · have h := h.2 hc
    refine EvX.blk (pc' := 53) [(.aload_n 0, 0, 0), (.iload_n 1, 0, 0), (.iload_n 3, 0, 0), (.iconst 1, 0, 0), (.iadd, 0, 0), (.iload_n 3, 0, 0)] (by decide +kernel) trivial ?_
    show Ev (d + 1) M_Mo_drop 0 0 53 [(2, v0), (0, v1), zJ, (0, v3)] [(0, v3), (0, iw (v3 + 1)), (0, v1), (2, v0)] kd m3 (zqI kd q)
    obtain ⟨ov, h⟩ := h
    obtain ⟨q13, hq, h⟩ := h
    refine EvX.callV (c := 8) (mc := 0) (ms := 0) (as := [(0, v1), (0, iw (v3 + 1)), (0, v3)]) (st := []) (by decide +kernel) l_Mo_218 k_Mo_copies v_Mo_copies a_Mo_copies (by decide) (Nat.le_of_ble_eq_true rfl) rfl ov hq (fun r kd1 m15 hr => ?_)
    obtain ⟨rfl, hk, hr⟩ := hr
    subst kd1
    have h := h m15 hr
    show Ev (d + 1) M_Mo_drop 0 0 56 [(2, v0), (0, v1), zJ, (0, v3)] [] kd m15 (zqI kd q)
    refine EvX.blk (pc' := 59) [(.iinc 3 1, 0, 0)] (by decide +kernel) trivial ?_
    show Ev (d + 1) M_Mo_drop 0 0 59 [(2, v0), (0, v1), zJ, (0, iw (v3 + 1))] [] kd m15 (zqI kd q)
    refine EvX.goto (off := (-23)) (tgt := 36) (by decide +kernel) (by decide) ?_
    exact h
set_option maxRecDepth 20000 in
set_option maxHeartbeats 1000000 in
theorem T_Mo_copy_0 {d : Nat} {kd : ZK} {m : ZM} {q : Int → ZM → Prop} {v0 v1 v2 : Int} (h : (∃ q1, CtI d M_Mo_isPlayer [(0, v1)] kd m q1 ∧ ∀ x2 m3, q1 x2 m3 → ((x2 = 0 → q (-1) m3) ∧ (¬ x2 = 0 → (zobj kd v0 8 ∧ ∃ q4, CtI d M_Mo_isQuestion [(2, v0), (0, v1), (0, v2)] kd m3 q4 ∧ ∀ x5 m6, q4 x5 m6 → ((x5 ≠ 0 → (zobj kd v0 8 ∧ ∃ q7, CtI d M_Mo_questions [(2, v0), (0, v1)] kd m6 q7 ∧ ∀ x8 m9, q7 x8 m9 → ((x8 ≠ 5 → (zobj kd v0 8 ∧ ∃ q10, CtV d M_Mo_keepsPast [(2, v0)] kd m9 q10 ∧ ∀ m12, q10 m12 → (zobj kd v0 8 ∧ ∃ q13, CtI d M_Mo_questions [(2, v0), (0, v1)] kd m12 q13 ∧ ∀ x14 m15, q13 x14 m15 → (zobj kd v0 8 ∧ ∃ q16, CtV d M_Mo_copies [(2, v0), (0, v1), (0, v2), (0, x14)] kd m15 q16 ∧ ∀ m18, q16 m18 → (zobj kd v0 8 ∧ zIn kd (m18 v0 0) 0 (iw (0 + v1)) ∧ zIn kd (m18 v0 0) 0 (iw (0 + v1)) ∧ (zobj kd v0 8 ∧ ∃ q19, CtI d M_Mo_questions [(2, v0), (0, v1)] kd (zup m18 (m18 v0 0) (iw (0 + v1)) (iw ((m18 (m18 v0 0) (iw (0 + v1))) + 1))) q19 ∧ ∀ x20 m21, q19 x20 m21 → q x20 m21)))))) ∧ (¬ x8 ≠ 5 → q (-2) m9)))) ∧ (¬ x5 ≠ 0 → q (-1) m6))))))) : Ev (d + 1) M_Mo_copy 0 0 0 [(2, v0), (0, v1), (0, v2)] [] kd m (zqI kd q) := by
  refine EvX.blk (pc' := 1) [(.iload_n 1, 0, 0)] (by decide +kernel) trivial ?_
  show Ev (d + 1) M_Mo_copy 0 0 1 [(2, v0), (0, v1), (0, v2)] [(0, v1)] kd m (zqI kd q)
  obtain ⟨q1, hq, h⟩ := h
  refine EvX.callS (mc := 0) (ms := 0) (as := [(0, v1)]) (st := []) (by decide +kernel) l_Mo_208 k_Mo_isPlayer s_Mo_isPlayer a_Mo_isPlayer (by decide) (Nat.le_of_ble_eq_true rfl) hq (fun r kd1 m3 hr => ?_)
  obtain ⟨x2, rfl, hk, hr⟩ := hr
  subst kd1
  have h := h x2 m3 hr
  show Ev (d + 1) M_Mo_copy 0 0 4 [(2, v0), (0, v1), (0, v2)] [(0, x2)] kd m3 (zqI kd q)
  refine EvX.if_eq (off := 12) (tgt := 16) (by decide +kernel) (by decide) (fun hc => ?_) (fun hc => ?_)
  · have h := h.1 hc
    refine EvX.blk (pc' := 17) [(.iconst (-1), 0, 0)] (by decide +kernel) trivial ?_
    show Ev (d + 1) M_Mo_copy 0 0 17 [(2, v0), (0, v1), (0, v2)] [(0, (-1))] kd m3 (zqI kd q)
    exact EvX.ret (r := (0, (-1))) (by decide +kernel) rfl ⟨_, rfl, rfl, h⟩
  · have h := h.2 hc
    refine EvX.blk (pc' := 10) [(.aload_n 0, 0, 0), (.iload_n 1, 0, 0), (.iload_n 2, 0, 0)] (by decide +kernel) trivial ?_
    show Ev (d + 1) M_Mo_copy 0 0 10 [(2, v0), (0, v1), (0, v2)] [(0, v2), (0, v1), (2, v0)] kd m3 (zqI kd q)
    obtain ⟨ov, h⟩ := h
    obtain ⟨q4, hq, h⟩ := h
    refine EvX.callV (c := 8) (mc := 0) (ms := 0) (as := [(0, v1), (0, v2)]) (st := []) (by decide +kernel) l_Mo_170 k_Mo_isQuestion v_Mo_isQuestion a_Mo_isQuestion (by decide) (Nat.le_of_ble_eq_true rfl) rfl ov hq (fun r kd1 m6 hr => ?_)
    obtain ⟨x5, rfl, hk, hr⟩ := hr
    subst kd1
    have h := h x5 m6 hr
    show Ev (d + 1) M_Mo_copy 0 0 13 [(2, v0), (0, v1), (0, v2)] [(0, x5)] kd m6 (zqI kd q)
    refine EvX.if_ne (off := 5) (tgt := 18) (by decide +kernel) (by decide) (fun hc => ?_) (fun hc => ?_)
    · have h := h.1 hc
      refine EvX.blk (pc' := 20) [(.aload_n 0, 0, 0), (.iload_n 1, 0, 0)] (by decide +kernel) trivial ?_
      show Ev (d + 1) M_Mo_copy 0 0 20 [(2, v0), (0, v1), (0, v2)] [(0, v1), (2, v0)] kd m6 (zqI kd q)
      obtain ⟨ov, h⟩ := h
      obtain ⟨q7, hq, h⟩ := h
      refine EvX.callV (c := 8) (mc := 0) (ms := 0) (as := [(0, v1)]) (st := []) (by decide +kernel) l_Mo_163 k_Mo_questions v_Mo_questions a_Mo_questions (by decide) (Nat.le_of_ble_eq_true rfl) rfl ov hq (fun r kd1 m9 hr => ?_)
      obtain ⟨x8, rfl, hk, hr⟩ := hr
      subst kd1
      have h := h x8 m9 hr
      show Ev (d + 1) M_Mo_copy 0 0 23 [(2, v0), (0, v1), (0, v2)] [(0, x8)] kd m9 (zqI kd q)
      refine EvX.blk (pc' := 24) [(.iconst 5, 0, 0)] (by decide +kernel) trivial ?_
      show Ev (d + 1) M_Mo_copy 0 0 24 [(2, v0), (0, v1), (0, v2)] [(0, 5), (0, x8)] kd m9 (zqI kd q)
      refine EvX.icmp_ne (off := 6) (tgt := 30) (by decide +kernel) (by decide) (fun hc => ?_) (fun hc => ?_)
      · have h := h.1 hc
        refine EvX.blk (pc' := 31) [(.aload_n 0, 0, 0)] (by decide +kernel) trivial ?_
        show Ev (d + 1) M_Mo_copy 0 0 31 [(2, v0), (0, v1), (0, v2)] [(2, v0)] kd m9 (zqI kd q)
        obtain ⟨ov, h⟩ := h
        obtain ⟨q10, hq, h⟩ := h
        refine EvX.callV (c := 8) (mc := 0) (ms := 0) (as := []) (st := []) (by decide +kernel) l_Mo_183 k_Mo_keepsPast v_Mo_keepsPast a_Mo_keepsPast (by decide) (Nat.le_of_ble_eq_true rfl) rfl ov hq (fun r kd1 m12 hr => ?_)
        obtain ⟨rfl, hk, hr⟩ := hr
        subst kd1
        have h := h m12 hr
        show Ev (d + 1) M_Mo_copy 0 0 34 [(2, v0), (0, v1), (0, v2)] [] kd m12 (zqI kd q)
        refine EvX.blk (pc' := 39) [(.aload_n 0, 0, 0), (.iload_n 1, 0, 0), (.iload_n 2, 0, 0), (.aload_n 0, 0, 0), (.iload_n 1, 0, 0)] (by decide +kernel) trivial ?_
        show Ev (d + 1) M_Mo_copy 0 0 39 [(2, v0), (0, v1), (0, v2)] [(0, v1), (2, v0), (0, v2), (0, v1), (2, v0)] kd m12 (zqI kd q)
        obtain ⟨ov, h⟩ := h
        obtain ⟨q13, hq, h⟩ := h
        refine EvX.callV (c := 8) (mc := 0) (ms := 0) (as := [(0, v1)]) (st := [(0, v2), (0, v1), (2, v0)]) (by decide +kernel) l_Mo_163 k_Mo_questions v_Mo_questions a_Mo_questions (by decide) (Nat.le_of_ble_eq_true rfl) rfl ov hq (fun r kd1 m15 hr => ?_)
        obtain ⟨x14, rfl, hk, hr⟩ := hr
        subst kd1
        have h := h x14 m15 hr
        show Ev (d + 1) M_Mo_copy 0 0 42 [(2, v0), (0, v1), (0, v2)] [(0, x14), (0, v2), (0, v1), (2, v0)] kd m15 (zqI kd q)
        obtain ⟨ov, h⟩ := h
        obtain ⟨q16, hq, h⟩ := h
        refine EvX.callV (c := 8) (mc := 0) (ms := 0) (as := [(0, v1), (0, v2), (0, x14)]) (st := []) (by decide +kernel) l_Mo_218 k_Mo_copies v_Mo_copies a_Mo_copies (by decide) (Nat.le_of_ble_eq_true rfl) rfl ov hq (fun r kd1 m18 hr => ?_)
        obtain ⟨rfl, hk, hr⟩ := hr
        subst kd1
        have h := h m18 hr
        show Ev (d + 1) M_Mo_copy 0 0 45 [(2, v0), (0, v1), (0, v2)] [] kd m18 (zqI kd q)
        obtain ⟨o1, o2, o3, h⟩ := h
        refine EvX.blk (pc' := 59) [(.aload_n 0, 0, 0), (.getfield 9, 8, 0), (.iconst 0, 0, 0), (.iload_n 1, 0, 0), (.iadd, 0, 0), (.dup2, 0, 0), (.iaload, 0, 0), (.iconst 1, 0, 0), (.iadd, 0, 0), (.iastore, 0, 0), (.aload_n 0, 0, 0), (.iload_n 1, 0, 0)] (by decide +kernel) ⟨g_Mo_9, trivial⟩ ⟨o1, o2, o3, ?_⟩
        show Ev (d + 1) M_Mo_copy 0 0 59 [(2, v0), (0, v1), (0, v2)] [(0, v1), (2, v0)] kd (zup m18 (m18 v0 0) (iw (0 + v1)) (iw ((m18 (m18 v0 0) (iw (0 + v1))) + 1))) (zqI kd q)
        obtain ⟨ov, h⟩ := h
        obtain ⟨q19, hq, h⟩ := h
        refine EvX.callV (c := 8) (mc := 0) (ms := 0) (as := [(0, v1)]) (st := []) (by decide +kernel) l_Mo_163 k_Mo_questions v_Mo_questions a_Mo_questions (by decide) (Nat.le_of_ble_eq_true rfl) rfl ov hq (fun r kd1 m21 hr => ?_)
        obtain ⟨x20, rfl, hk, hr⟩ := hr
        subst kd1
        have h := h x20 m21 hr
        show Ev (d + 1) M_Mo_copy 0 0 62 [(2, v0), (0, v1), (0, v2)] [(0, x20)] kd m21 (zqI kd q)
        exact EvX.ret (r := (0, x20)) (by decide +kernel) rfl ⟨_, rfl, rfl, h⟩
      · have h := h.2 hc
        refine EvX.blk (pc' := 29) [(.bipush (-2), 0, 0)] (by decide +kernel) trivial ?_
        show Ev (d + 1) M_Mo_copy 0 0 29 [(2, v0), (0, v1), (0, v2)] [(0, (-2))] kd m9 (zqI kd q)
        exact EvX.ret (r := (0, (-2))) (by decide +kernel) rfl ⟨_, rfl, rfl, h⟩
    · have h := h.2 hc
      refine EvX.blk (pc' := 17) [(.iconst (-1), 0, 0)] (by decide +kernel) trivial ?_
      show Ev (d + 1) M_Mo_copy 0 0 17 [(2, v0), (0, v1), (0, v2)] [(0, (-1))] kd m6 (zqI kd q)
      exact EvX.ret (r := (0, (-1))) (by decide +kernel) rfl ⟨_, rfl, rfl, h⟩
theorem S_Mo_copy {d : Nat} {kd : ZK} {m : ZM} {q : Int → ZM → Prop} {v0 v1 v2 : Int} (h : (∃ q1, CtI d M_Mo_isPlayer [(0, v1)] kd m q1 ∧ ∀ x2 m3, q1 x2 m3 → ((x2 = 0 → q (-1) m3) ∧ (¬ x2 = 0 → (zobj kd v0 8 ∧ ∃ q4, CtI d M_Mo_isQuestion [(2, v0), (0, v1), (0, v2)] kd m3 q4 ∧ ∀ x5 m6, q4 x5 m6 → ((x5 ≠ 0 → (zobj kd v0 8 ∧ ∃ q7, CtI d M_Mo_questions [(2, v0), (0, v1)] kd m6 q7 ∧ ∀ x8 m9, q7 x8 m9 → ((x8 ≠ 5 → (zobj kd v0 8 ∧ ∃ q10, CtV d M_Mo_keepsPast [(2, v0)] kd m9 q10 ∧ ∀ m12, q10 m12 → (zobj kd v0 8 ∧ ∃ q13, CtI d M_Mo_questions [(2, v0), (0, v1)] kd m12 q13 ∧ ∀ x14 m15, q13 x14 m15 → (zobj kd v0 8 ∧ ∃ q16, CtV d M_Mo_copies [(2, v0), (0, v1), (0, v2), (0, x14)] kd m15 q16 ∧ ∀ m18, q16 m18 → (zobj kd v0 8 ∧ zIn kd (m18 v0 0) 0 (iw (0 + v1)) ∧ zIn kd (m18 v0 0) 0 (iw (0 + v1)) ∧ (zobj kd v0 8 ∧ ∃ q19, CtI d M_Mo_questions [(2, v0), (0, v1)] kd (zup m18 (m18 v0 0) (iw (0 + v1)) (iw ((m18 (m18 v0 0) (iw (0 + v1))) + 1))) q19 ∧ ∀ x20 m21, q19 x20 m21 → q x20 m21)))))) ∧ (¬ x8 ≠ 5 → q (-2) m9)))) ∧ (¬ x5 ≠ 0 → q (-1) m6))))))) : CtI (d + 1) M_Mo_copy [(2, v0), (0, v1), (0, v2)] kd m q :=
  Ct.start k_Mo_copy (Nat.le_of_ble_eq_true rfl) ⟨1, Or.inr (Or.inl ⟨rfl, rfl⟩)⟩ (T_Mo_copy_0 h)
set_option maxRecDepth 20000 in
set_option maxHeartbeats 1000000 in
theorem T_Mo_rowOf_0 {d : Nat} {kd : ZK} {m : ZM} {q : Int → ZM → Prop} {v0 v1 : Int} (h : ((v1 ≠ 0 → (zobj kd v0 8 ∧ q (m v0 13) m)) ∧ (¬ v1 ≠ 0 → (zobj kd v0 8 ∧ q (m v0 12) m)))) : Ev (d + 1) M_Mo_rowOf 0 0 0 [(2, v0), (0, v1)] [] kd m (zqR kd q) := by
  refine EvX.blk (pc' := 1) [(.iload_n 1, 0, 0)] (by decide +kernel) trivial ?_
  show Ev (d + 1) M_Mo_rowOf 0 0 1 [(2, v0), (0, v1)] [(0, v1)] kd m (zqR kd q)
  refine EvX.if_ne (off := 10) (tgt := 11) (by decide +kernel) (by decide) (fun hc => ?_) (fun hc => ?_)
  · have h := h.1 hc
    obtain ⟨o1, h⟩ := h
    refine EvX.blk (pc' := 15) [(.aload_n 0, 0, 0), (.getfield 36, 8, 13)] (by decide +kernel) ⟨g_Mo_36, trivial⟩ ⟨o1, ?_⟩
    show Ev (d + 1) M_Mo_rowOf 0 0 15 [(2, v0), (0, v1)] [(2, m v0 13)] kd m (zqR kd q)
    exact EvX.ret (r := (2, m v0 13)) (by decide +kernel) rfl ⟨_, rfl, rfl, h⟩
  · have h := h.2 hc
    obtain ⟨o1, h⟩ := h
    refine EvX.blk (pc' := 8) [(.aload_n 0, 0, 0), (.getfield 33, 8, 12)] (by decide +kernel) ⟨g_Mo_33, trivial⟩ ⟨o1, ?_⟩
    show Ev (d + 1) M_Mo_rowOf 0 0 8 [(2, v0), (0, v1)] [(2, m v0 12)] kd m (zqR kd q)
    refine EvX.goto (off := 7) (tgt := 15) (by decide +kernel) (by decide) ?_
    exact EvX.ret (r := (2, m v0 12)) (by decide +kernel) rfl ⟨_, rfl, rfl, h⟩
theorem S_Mo_rowOf {d : Nat} {kd : ZK} {m : ZM} {q : Int → ZM → Prop} {v0 v1 : Int} (h : ((v1 ≠ 0 → (zobj kd v0 8 ∧ q (m v0 13) m)) ∧ (¬ v1 ≠ 0 → (zobj kd v0 8 ∧ q (m v0 12) m)))) : CtR (d + 1) M_Mo_rowOf [(2, v0), (0, v1)] kd m q :=
  Ct.start k_Mo_rowOf (Nat.le_of_ble_eq_true rfl) ⟨4, Or.inr (Or.inr (Or.inr (Or.inr (Or.inl ⟨rfl, _, rfl⟩))))⟩ (T_Mo_rowOf_0 h)
set_option maxRecDepth 20000 in
set_option maxHeartbeats 1000000 in
theorem T_Mo_lays_0 {d : Nat} {kd : ZK} {m : ZM} {q : Int → ZM → Prop} {v0 v1 v2 : Int} (h : (zobj kd v0 8 ∧ ∃ q1, CtR d M_Mo_rowOf [(2, v0), (0, v1)] kd m q1 ∧ ∀ x2 m3, q1 x2 m3 → ((v2 < 0 → (zobj kd v0 8 ∧ ∃ q4, CtI d M_Mo_questions [(2, v0), (0, v1)] kd m3 q4 ∧ ∀ x5 m6, q4 x5 m6 → (Ev (d + 1) M_Mo_lays 0 0 29 [(2, v0), (0, v1), zJ, (0, v2), (2, x2), (0, 0), (0, iw (x5 - 1))] [] kd m6 (zqI kd q)))) ∧ (¬ v2 < 0 → (zobj kd v0 8 ∧ ∃ q7, CtI d M_Mo_questions [(2, v0), (0, v1)] kd m3 q7 ∧ ∀ x8 m9, q7 x8 m9 → (Ev (d + 1) M_Mo_lays 0 0 29 [(2, v0), (0, v1), zJ, (0, v2), (2, x2), (0, 1), (0, iw (x8 - 1))] [] kd m9 (zqI kd q))))))) : Ev (d + 1) M_Mo_lays 0 0 0 [(2, v0), (0, v1), (0, v2), zJ, zJ, zJ, zJ] [] kd m (zqI kd q) := by
  refine EvX.blk (pc' := 4) [(.iload_n 2, 0, 0), (.istore_n 3, 0, 0), (.aload_n 0, 0, 0), (.iload_n 1, 0, 0)] (by decide +kernel) trivial ?_
  show Ev (d + 1) M_Mo_lays 0 0 4 [(2, v0), (0, v1), (0, v2), (0, v2), zJ, zJ, zJ] [(0, v1), (2, v0)] kd m (zqI kd q)
  obtain ⟨ov, h⟩ := h
  obtain ⟨q1, hq, h⟩ := h
  refine EvX.callV (c := 8) (mc := 0) (ms := 0) (as := [(0, v1)]) (st := []) (by decide +kernel) l_Mo_222 k_Mo_rowOf v_Mo_rowOf a_Mo_rowOf (by decide) (Nat.le_of_ble_eq_true rfl) rfl ov hq (fun r kd1 m3 hr => ?_)
  obtain ⟨x2, rfl, hk, hr⟩ := hr
  subst kd1
  have h := h x2 m3 hr
  show Ev (d + 1) M_Mo_lays 0 0 7 [(2, v0), (0, v1), (0, v2), (0, v2), zJ, zJ, zJ] [(2, x2)] kd m3 (zqI kd q)
  refine EvX.blk (pc' := 10) [(.astore 4, 0, 0), (.iload_n 2, 0, 0)] (by decide +kernel) trivial ?_
  show Ev (d + 1) M_Mo_lays 0 0 10 [(2, v0), (0, v1), (0, v2), (0, v2), (2, x2), zJ, zJ] [(0, v2)] kd m3 (zqI kd q)
  refine EvX.if_lt (off := 7) (tgt := 17) (by decide +kernel) (by decide) (fun hc => ?_) (fun hc => ?_)
  · have h := h.1 hc
    refine EvX.blk (pc' := 22) [(.iconst 0, 0, 0), (.istore 5, 0, 0), (.aload_n 0, 0, 0), (.iload_n 1, 0, 0)] (by decide +kernel) trivial ?_
    show Ev (d + 1) M_Mo_lays 0 0 22 [(2, v0), (0, v1), (0, v2), (0, v2), (2, x2), (0, 0), zJ] [(0, v1), (2, v0)] kd m3 (zqI kd q)
    obtain ⟨ov, h⟩ := h
    obtain ⟨q4, hq, h⟩ := h
    refine EvX.callV (c := 8) (mc := 0) (ms := 0) (as := [(0, v1)]) (st := []) (by decide +kernel) l_Mo_163 k_Mo_questions v_Mo_questions a_Mo_questions (by decide) (Nat.le_of_ble_eq_true rfl) rfl ov hq (fun r kd1 m6 hr => ?_)
    obtain ⟨x5, rfl, hk, hr⟩ := hr
    subst kd1
    have h := h x5 m6 hr
    show Ev (d + 1) M_Mo_lays 0 0 25 [(2, v0), (0, v1), (0, v2), (0, v2), (2, x2), (0, 0), zJ] [(0, x5)] kd m6 (zqI kd q)
    refine EvX.blk (pc' := 29) [(.iconst 1, 0, 0), (.isub, 0, 0), (.istore 6, 0, 0)] (by decide +kernel) trivial ?_
    show Ev (d + 1) M_Mo_lays 0 0 29 [(2, v0), (0, v1), (0, v2), (0, v2), (2, x2), (0, 0), (0, iw (x5 - 1))] [] kd m6 (zqI kd q)
    exact EvX.weak (ls2 := [(2, v0), (0, v1), zJ, (0, v2), (2, x2), (0, 0), (0, iw (x5 - 1))]) (zwk_of ⟨Or.inr rfl, Or.inr rfl, Or.inl rfl, Or.inr rfl, Or.inr rfl, Or.inr rfl, Or.inr rfl, trivial⟩) h
  · have h := h.2 hc
    refine EvX.blk (pc' := 14) [(.iconst 1, 0, 0)] (by decide +kernel) trivial ?_
    show Ev (d + 1) M_Mo_lays 0 0 14 [(2, v0), (0, v1), (0, v2), (0, v2), (2, x2), zJ, zJ] [(0, 1)] kd m3 (zqI kd q)
    refine EvX.goto (off := 4) (tgt := 18) (by decide +kernel) (by decide) ?_
    refine EvX.blk (pc' := 22) [(.istore 5, 0, 0), (.aload_n 0, 0, 0), (.iload_n 1, 0, 0)] (by decide +kernel) trivial ?_
    show Ev (d + 1) M_Mo_lays 0 0 22 [(2, v0), (0, v1), (0, v2), (0, v2), (2, x2), (0, 1), zJ] [(0, v1), (2, v0)] kd m3 (zqI kd q)
    obtain ⟨ov, h⟩ := h
    obtain ⟨q7, hq, h⟩ := h
    refine EvX.callV (c := 8) (mc := 0) (ms := 0) (as := [(0, v1)]) (st := []) (by decide +kernel) l_Mo_163 k_Mo_questions v_Mo_questions a_Mo_questions (by decide) (Nat.le_of_ble_eq_true rfl) rfl ov hq (fun r kd1 m9 hr => ?_)
    obtain ⟨x8, rfl, hk, hr⟩ := hr
    subst kd1
    have h := h x8 m9 hr
    show Ev (d + 1) M_Mo_lays 0 0 25 [(2, v0), (0, v1), (0, v2), (0, v2), (2, x2), (0, 1), zJ] [(0, x8)] kd m9 (zqI kd q)
    refine EvX.blk (pc' := 29) [(.iconst 1, 0, 0), (.isub, 0, 0), (.istore 6, 0, 0)] (by decide +kernel) trivial ?_
    show Ev (d + 1) M_Mo_lays 0 0 29 [(2, v0), (0, v1), (0, v2), (0, v2), (2, x2), (0, 1), (0, iw (x8 - 1))] [] kd m9 (zqI kd q)
    exact EvX.weak (ls2 := [(2, v0), (0, v1), zJ, (0, v2), (2, x2), (0, 1), (0, iw (x8 - 1))]) (zwk_of ⟨Or.inr rfl, Or.inr rfl, Or.inl rfl, Or.inr rfl, Or.inr rfl, Or.inr rfl, Or.inr rfl, trivial⟩) h
theorem S_Mo_lays {d : Nat} {kd : ZK} {m : ZM} {q : Int → ZM → Prop} {v0 v1 v2 : Int} (h : (zobj kd v0 8 ∧ ∃ q1, CtR d M_Mo_rowOf [(2, v0), (0, v1)] kd m q1 ∧ ∀ x2 m3, q1 x2 m3 → ((v2 < 0 → (zobj kd v0 8 ∧ ∃ q4, CtI d M_Mo_questions [(2, v0), (0, v1)] kd m3 q4 ∧ ∀ x5 m6, q4 x5 m6 → (Ev (d + 1) M_Mo_lays 0 0 29 [(2, v0), (0, v1), zJ, (0, v2), (2, x2), (0, 0), (0, iw (x5 - 1))] [] kd m6 (zqI kd q)))) ∧ (¬ v2 < 0 → (zobj kd v0 8 ∧ ∃ q7, CtI d M_Mo_questions [(2, v0), (0, v1)] kd m3 q7 ∧ ∀ x8 m9, q7 x8 m9 → (Ev (d + 1) M_Mo_lays 0 0 29 [(2, v0), (0, v1), zJ, (0, v2), (2, x2), (0, 1), (0, iw (x8 - 1))] [] kd m9 (zqI kd q))))))) : CtI (d + 1) M_Mo_lays [(2, v0), (0, v1), (0, v2)] kd m q :=
  Ct.start k_Mo_lays (Nat.le_of_ble_eq_true rfl) ⟨2, Or.inr (Or.inr (Or.inl ⟨rfl, rfl⟩))⟩ (T_Mo_lays_0 h)
set_option maxRecDepth 20000 in
set_option maxHeartbeats 1000000 in
theorem T_Mo_lays_29 {d : Nat} {kd : ZK} {m : ZM} {q : Int → ZM → Prop} {v0 v1 v3 v4 v5 v6 : Int} (h : ((v6 < 0 → ((v5 = 0 → q 0 m) ∧ (¬ v5 = 0 → ((v3 ≠ 0 → q 0 m) ∧ (¬ v3 ≠ 0 → (zobj kd v0 8 ∧ ∃ q1, CtI d M_Mo_hasGame [(2, v0)] kd m q1 ∧ ∀ x2 m3, q1 x2 m3 → ((x2 = 0 → q 0 m3) ∧ (¬ x2 = 0 → q 1 m3)))))))) ∧ (¬ v6 < 0 → (∃ q4, CtI d M_Math_floorMod [(0, v3), (0, 10)] kd m q4 ∧ ∀ x5 m6, q4 x5 m6 → (zIn kd v4 0 v6 ∧ ((v5 = 0 → (Ev (d + 1) M_Mo_lays 0 0 29 [(2, v0), (0, v1), zJ, (0, iw (Int.tdiv v3 10)), (2, v4), (0, 0), (0, iw (v6 + (-1)))] [] kd (zup m6 v4 v6 x5) (zqI kd q))) ∧ (¬ v5 = 0 → (zIn kd v4 0 v6 ∧ (zobj kd v0 8 ∧ ∃ q7, CtI d M_Mo_answers [(2, v0), (0, v1)] kd (zup m6 v4 v6 x5) q7 ∧ ∀ x8 m9, q7 x8 m9 → ((x8 ≤ ((zup m6 v4 v6 x5) v4 v6) → (Ev (d + 1) M_Mo_lays 0 0 29 [(2, v0), (0, v1), zJ, (0, iw (Int.tdiv v3 10)), (2, v4), (0, 0), (0, iw (v6 + (-1)))] [] kd m9 (zqI kd q))) ∧ (¬ x8 ≤ ((zup m6 v4 v6 x5) v4 v6) → (Ev (d + 1) M_Mo_lays 0 0 29 [(2, v0), (0, v1), zJ, (0, iw (Int.tdiv v3 10)), (2, v4), (0, 1), (0, iw (v6 + (-1)))] [] kd m9 (zqI kd q))))))))))))) : Ev (d + 1) M_Mo_lays 0 0 29 [(2, v0), (0, v1), zJ, (0, v3), (2, v4), (0, v5), (0, v6)] [] kd m (zqI kd q) := by
  refine EvX.blk (pc' := 31) [(.iload 6, 0, 0)] (by decide +kernel) trivial ?_
  show Ev (d + 1) M_Mo_lays 0 0 31 [(2, v0), (0, v1), zJ, (0, v3), (2, v4), (0, v5), (0, v6)] [(0, v6)] kd m (zqI kd q)
  refine EvX.if_lt (off := 50) (tgt := 81) (by decide +kernel) (by decide) (fun hc => ?_) (fun hc => ?_)
  · have h := h.1 hc
    refine EvX.blk (pc' := 83) [(.iload 5, 0, 0)] (by decide +kernel) trivial ?_
    show Ev (d + 1) M_Mo_lays 0 0 83 [(2, v0), (0, v1), zJ, (0, v3), (2, v4), (0, v5), (0, v6)] [(0, v5)] kd m (zqI kd q)
    refine EvX.if_eq (off := 18) (tgt := 101) (by decide +kernel) (by decide) (fun hc => ?_) (fun hc => ?_)
    · have h := h.1 hc
      refine EvX.blk (pc' := 102) [(.iconst 0, 0, 0)] (by decide +kernel) trivial ?_
      show Ev (d + 1) M_Mo_lays 0 0 102 [(2, v0), (0, v1), zJ, (0, v3), (2, v4), (0, v5), (0, v6)] [(0, 0)] kd m (zqI kd q)
      exact EvX.ret (r := (0, 0)) (by decide +kernel) ⟨rfl, by decide, by decide⟩ ⟨_, rfl, rfl, h⟩
    · have h := h.2 hc
      refine EvX.blk (pc' := 87) [(.iload_n 3, 0, 0)] (by decide +kernel) trivial ?_
      show Ev (d + 1) M_Mo_lays 0 0 87 [(2, v0), (0, v1), zJ, (0, v3), (2, v4), (0, v5), (0, v6)] [(0, v3)] kd m (zqI kd q)
      refine EvX.if_ne (off := 14) (tgt := 101) (by decide +kernel) (by decide) (fun hc => ?_) (fun hc => ?_)
      · have h := h.1 hc
        refine EvX.blk (pc' := 102) [(.iconst 0, 0, 0)] (by decide +kernel) trivial ?_
        show Ev (d + 1) M_Mo_lays 0 0 102 [(2, v0), (0, v1), zJ, (0, v3), (2, v4), (0, v5), (0, v6)] [(0, 0)] kd m (zqI kd q)
        exact EvX.ret (r := (0, 0)) (by decide +kernel) ⟨rfl, by decide, by decide⟩ ⟨_, rfl, rfl, h⟩
      · have h := h.2 hc
        refine EvX.blk (pc' := 91) [(.aload_n 0, 0, 0)] (by decide +kernel) trivial ?_
        show Ev (d + 1) M_Mo_lays 0 0 91 [(2, v0), (0, v1), zJ, (0, v3), (2, v4), (0, v5), (0, v6)] [(2, v0)] kd m (zqI kd q)
        obtain ⟨ov, h⟩ := h
        obtain ⟨q1, hq, h⟩ := h
        refine EvX.callV (c := 8) (mc := 0) (ms := 0) (as := []) (st := []) (by decide +kernel) l_Mo_215 k_Mo_hasGame v_Mo_hasGame a_Mo_hasGame (by decide) (Nat.le_of_ble_eq_true rfl) rfl ov hq (fun r kd1 m3 hr => ?_)
        obtain ⟨x2, rfl, hk, hr⟩ := hr
        subst kd1
        have h := h x2 m3 hr
        show Ev (d + 1) M_Mo_lays 0 0 94 [(2, v0), (0, v1), zJ, (0, v3), (2, v4), (0, v5), (0, v6)] [(0, x2)] kd m3 (zqI kd q)
        refine EvX.if_eq (off := 7) (tgt := 101) (by decide +kernel) (by decide) (fun hc => ?_) (fun hc => ?_)
        · have h := h.1 hc
          refine EvX.blk (pc' := 102) [(.iconst 0, 0, 0)] (by decide +kernel) trivial ?_
          show Ev (d + 1) M_Mo_lays 0 0 102 [(2, v0), (0, v1), zJ, (0, v3), (2, v4), (0, v5), (0, v6)] [(0, 0)] kd m3 (zqI kd q)
          exact EvX.ret (r := (0, 0)) (by decide +kernel) ⟨rfl, by decide, by decide⟩ ⟨_, rfl, rfl, h⟩
        · have h := h.2 hc
          refine EvX.blk (pc' := 98) [(.iconst 1, 0, 0)] (by decide +kernel) trivial ?_
          show Ev (d + 1) M_Mo_lays 0 0 98 [(2, v0), (0, v1), zJ, (0, v3), (2, v4), (0, v5), (0, v6)] [(0, 1)] kd m3 (zqI kd q)
          refine EvX.goto (off := 4) (tgt := 102) (by decide +kernel) (by decide) ?_
          exact EvX.ret (r := (0, 1)) (by decide +kernel) ⟨rfl, by decide, by decide⟩ ⟨_, rfl, rfl, h⟩
  · have h := h.2 hc
    refine EvX.blk (pc' := 41) [(.aload 4, 0, 0), (.iload 6, 0, 0), (.iload_n 3, 0, 0), (.bipush 10, 0, 0)] (by decide +kernel) trivial ?_
    show Ev (d + 1) M_Mo_lays 0 0 41 [(2, v0), (0, v1), zJ, (0, v3), (2, v4), (0, v5), (0, v6)] [(0, 10), (0, v3), (0, v6), (2, v4)] kd m (zqI kd q)
    obtain ⟨q4, hq, h⟩ := h
    refine EvX.callSF (mc := 0) (ms := 0) (as := [(0, v3), (0, 10)]) (st := [(0, v6), (2, v4)]) (by decide +kernel) l_Mo_226 k_Math_floorMod s_Math_floorMod a_Math_floorMod (by decide) (Nat.le_of_ble_eq_true rfl) hq (fun r kd1 m6 hr => ?_)
    obtain ⟨x5, rfl, hk, hr⟩ := hr
    subst kd1
    have h := h x5 m6 hr
    show Ev (d + 1) M_Mo_lays 0 0 44 [(2, v0), (0, v1), zJ, (0, v3), (2, v4), (0, v5), (0, v6)] [(0, x5), (0, v6), (2, v4)] kd m6 (zqI kd q)
    obtain ⟨o1, h⟩ := h
    refine EvX.blk (pc' := 47) [(.iastore, 0, 0), (.iload 5, 0, 0)] (by decide +kernel) trivial ⟨o1, ?_⟩
    show Ev (d + 1) M_Mo_lays 0 0 47 [(2, v0), (0, v1), zJ, (0, v3), (2, v4), (0, v5), (0, v6)] [(0, v5)] kd (zup m6 v4 v6 x5) (zqI kd q)
    refine EvX.if_eq (off := 20) (tgt := 67) (by decide +kernel) (by decide) (fun hc => ?_) (fun hc => ?_)
    · have h := h.1 hc
      refine EvX.blk (pc' := 78) [(.iconst 0, 0, 0), (.istore 5, 0, 0), (.iload_n 3, 0, 0), (.bipush 10, 0, 0), (.idiv, 0, 0), (.istore_n 3, 0, 0), (.iinc 6 (-1), 0, 0)] (by decide +kernel) trivial ⟨by decide, ?_⟩
      show Ev (d + 1) M_Mo_lays 0 0 78 [(2, v0), (0, v1), zJ, (0, iw (Int.tdiv v3 10)), (2, v4), (0, 0), (0, iw (v6 + (-1)))] [] kd (zup m6 v4 v6 x5) (zqI kd q)
      refine EvX.goto (off := (-49)) (tgt := 29) (by decide +kernel) (by decide) ?_
      exact h
    · have h := h.2 hc
      obtain ⟨o1, h⟩ := h
      refine EvX.blk (pc' := 57) [(.aload 4, 0, 0), (.iload 6, 0, 0), (.iaload, 0, 0), (.aload_n 0, 0, 0), (.iload_n 1, 0, 0)] (by decide +kernel) trivial ⟨o1, ?_⟩
      show Ev (d + 1) M_Mo_lays 0 0 57 [(2, v0), (0, v1), zJ, (0, v3), (2, v4), (0, v5), (0, v6)] [(0, v1), (2, v0), (0, (zup m6 v4 v6 x5) v4 v6)] kd (zup m6 v4 v6 x5) (zqI kd q)
      obtain ⟨ov, h⟩ := h
      obtain ⟨q7, hq, h⟩ := h
      refine EvX.callV (c := 8) (mc := 0) (ms := 0) (as := [(0, v1)]) (st := [(0, (zup m6 v4 v6 x5) v4 v6)]) (by decide +kernel) l_Mo_167 k_Mo_answers v_Mo_answers a_Mo_answers (by decide) (Nat.le_of_ble_eq_true rfl) rfl ov hq (fun r kd1 m9 hr => ?_)
      obtain ⟨x8, rfl, hk, hr⟩ := hr
      subst kd1
      have h := h x8 m9 hr
      show Ev (d + 1) M_Mo_lays 0 0 60 [(2, v0), (0, v1), zJ, (0, v3), (2, v4), (0, v5), (0, v6)] [(0, x8), (0, (zup m6 v4 v6 x5) v4 v6)] kd m9 (zqI kd q)
      refine EvX.icmp_ge (off := 7) (tgt := 67) (by decide +kernel) (by decide) (fun hc => ?_) (fun hc => ?_)
      · have h := h.1 hc
        refine EvX.blk (pc' := 78) [(.iconst 0, 0, 0), (.istore 5, 0, 0), (.iload_n 3, 0, 0), (.bipush 10, 0, 0), (.idiv, 0, 0), (.istore_n 3, 0, 0), (.iinc 6 (-1), 0, 0)] (by decide +kernel) trivial ⟨by decide, ?_⟩
        show Ev (d + 1) M_Mo_lays 0 0 78 [(2, v0), (0, v1), zJ, (0, iw (Int.tdiv v3 10)), (2, v4), (0, 0), (0, iw (v6 + (-1)))] [] kd m9 (zqI kd q)
        refine EvX.goto (off := (-49)) (tgt := 29) (by decide +kernel) (by decide) ?_
        exact h
      · have h := h.2 hc
        refine EvX.blk (pc' := 64) [(.iconst 1, 0, 0)] (by decide +kernel) trivial ?_
        show Ev (d + 1) M_Mo_lays 0 0 64 [(2, v0), (0, v1), zJ, (0, v3), (2, v4), (0, v5), (0, v6)] [(0, 1)] kd m9 (zqI kd q)
        refine EvX.goto (off := 4) (tgt := 68) (by decide +kernel) (by decide) ?_
        refine EvX.blk (pc' := 78) [(.istore 5, 0, 0), (.iload_n 3, 0, 0), (.bipush 10, 0, 0), (.idiv, 0, 0), (.istore_n 3, 0, 0), (.iinc 6 (-1), 0, 0)] (by decide +kernel) trivial ⟨by decide, ?_⟩
        show Ev (d + 1) M_Mo_lays 0 0 78 [(2, v0), (0, v1), zJ, (0, iw (Int.tdiv v3 10)), (2, v4), (0, 1), (0, iw (v6 + (-1)))] [] kd m9 (zqI kd q)
        refine EvX.goto (off := (-49)) (tgt := 29) (by decide +kernel) (by decide) ?_
        exact h
set_option maxRecDepth 20000 in
set_option maxHeartbeats 1000000 in
theorem T_Mo_toldOf_0 {d : Nat} {kd : ZK} {m : ZM} {q : Int → ZM → Prop} {v0 v1 : Int} (h : (Ev (d + 1) M_Mo_toldOf 0 0 4 [(2, v0), (0, v1), (0, 0), (0, 0)] [] kd m (zqI kd q))) : Ev (d + 1) M_Mo_toldOf 0 0 0 [(2, v0), (0, v1), zJ, zJ] [] kd m (zqI kd q) := by
  refine EvX.blk (pc' := 4) [(.iconst 0, 0, 0), (.istore_n 2, 0, 0), (.iconst 0, 0, 0), (.istore_n 3, 0, 0)] (by decide +kernel) trivial ?_
  show Ev (d + 1) M_Mo_toldOf 0 0 4 [(2, v0), (0, v1), (0, 0), (0, 0)] [] kd m (zqI kd q)
  exact h
theorem S_Mo_toldOf {d : Nat} {kd : ZK} {m : ZM} {q : Int → ZM → Prop} {v0 v1 : Int} (h : (Ev (d + 1) M_Mo_toldOf 0 0 4 [(2, v0), (0, v1), (0, 0), (0, 0)] [] kd m (zqI kd q))) : CtI (d + 1) M_Mo_toldOf [(2, v0), (0, v1)] kd m q :=
  Ct.start k_Mo_toldOf (Nat.le_of_ble_eq_true rfl) ⟨1, Or.inr (Or.inl ⟨rfl, rfl⟩)⟩ (T_Mo_toldOf_0 h)
set_option maxRecDepth 20000 in
set_option maxHeartbeats 1000000 in
theorem T_Mo_toldOf_4 {d : Nat} {kd : ZK} {m : ZM} {q : Int → ZM → Prop} {v0 v1 v2 v3 : Int} (h : (zobj kd v0 8 ∧ ∃ q1, CtI d M_Mo_questions [(2, v0), (0, v1)] kd m q1 ∧ ∀ x2 m3, q1 x2 m3 → ((x2 ≤ v3 → q v2 m3) ∧ (¬ x2 ≤ v3 → (zobj kd v0 8 ∧ ∃ q4, CtR d M_Mo_rowOf [(2, v0), (0, v1)] kd m3 q4 ∧ ∀ x5 m6, q4 x5 m6 → (zIn kd x5 0 v3 ∧ (Ev (d + 1) M_Mo_toldOf 0 0 4 [(2, v0), (0, v1), (0, iw ((iw (10 * v2)) + (m6 x5 v3))), (0, iw (v3 + 1))] [] kd m6 (zqI kd q)))))))) : Ev (d + 1) M_Mo_toldOf 0 0 4 [(2, v0), (0, v1), (0, v2), (0, v3)] [] kd m (zqI kd q) := by
  refine EvX.blk (pc' := 7) [(.iload_n 3, 0, 0), (.aload_n 0, 0, 0), (.iload_n 1, 0, 0)] (by decide +kernel) trivial ?_
  show Ev (d + 1) M_Mo_toldOf 0 0 7 [(2, v0), (0, v1), (0, v2), (0, v3)] [(0, v1), (2, v0), (0, v3)] kd m (zqI kd q)
  obtain ⟨ov, h⟩ := h
  obtain ⟨q1, hq, h⟩ := h
  refine EvX.callV (c := 8) (mc := 0) (ms := 0) (as := [(0, v1)]) (st := [(0, v3)]) (by decide +kernel) l_Mo_163 k_Mo_questions v_Mo_questions a_Mo_questions (by decide) (Nat.le_of_ble_eq_true rfl) rfl ov hq (fun r kd1 m3 hr => ?_)
  obtain ⟨x2, rfl, hk, hr⟩ := hr
  subst kd1
  have h := h x2 m3 hr
  show Ev (d + 1) M_Mo_toldOf 0 0 10 [(2, v0), (0, v1), (0, v2), (0, v3)] [(0, x2), (0, v3)] kd m3 (zqI kd q)
  refine EvX.icmp_ge (off := 22) (tgt := 32) (by decide +kernel) (by decide) (fun hc => ?_) (fun hc => ?_)
  · have h := h.1 hc
    refine EvX.blk (pc' := 33) [(.iload_n 2, 0, 0)] (by decide +kernel) trivial ?_
    show Ev (d + 1) M_Mo_toldOf 0 0 33 [(2, v0), (0, v1), (0, v2), (0, v3)] [(0, v2)] kd m3 (zqI kd q)
    exact EvX.ret (r := (0, v2)) (by decide +kernel) rfl ⟨_, rfl, rfl, h⟩
  · have h := h.2 hc
    refine EvX.blk (pc' := 19) [(.bipush 10, 0, 0), (.iload_n 2, 0, 0), (.imul, 0, 0), (.aload_n 0, 0, 0), (.iload_n 1, 0, 0)] (by decide +kernel) trivial ?_
    show Ev (d + 1) M_Mo_toldOf 0 0 19 [(2, v0), (0, v1), (0, v2), (0, v3)] [(0, v1), (2, v0), (0, iw (10 * v2))] kd m3 (zqI kd q)
    obtain ⟨ov, h⟩ := h
    obtain ⟨q4, hq, h⟩ := h
    refine EvX.callV (c := 8) (mc := 0) (ms := 0) (as := [(0, v1)]) (st := [(0, iw (10 * v2))]) (by decide +kernel) l_Mo_222 k_Mo_rowOf v_Mo_rowOf a_Mo_rowOf (by decide) (Nat.le_of_ble_eq_true rfl) rfl ov hq (fun r kd1 m6 hr => ?_)
    obtain ⟨x5, rfl, hk, hr⟩ := hr
    subst kd1
    have h := h x5 m6 hr
    show Ev (d + 1) M_Mo_toldOf 0 0 22 [(2, v0), (0, v1), (0, v2), (0, v3)] [(2, x5), (0, iw (10 * v2))] kd m6 (zqI kd q)
    obtain ⟨o1, h⟩ := h
    refine EvX.blk (pc' := 29) [(.iload_n 3, 0, 0), (.iaload, 0, 0), (.iadd, 0, 0), (.istore_n 2, 0, 0), (.iinc 3 1, 0, 0)] (by decide +kernel) trivial ⟨o1, ?_⟩
    show Ev (d + 1) M_Mo_toldOf 0 0 29 [(2, v0), (0, v1), (0, iw ((iw (10 * v2)) + (m6 x5 v3))), (0, iw (v3 + 1))] [] kd m6 (zqI kd q)
    refine EvX.goto (off := (-25)) (tgt := 4) (by decide +kernel) (by decide) ?_
    exact h
set_option maxRecDepth 20000 in
set_option maxHeartbeats 1000000 in
theorem T_Mo_laysFirst_0 {d : Nat} {kd : ZK} {m : ZM} {q : ZM → Prop} {v0 v1 : Int} (h : (Ev (d + 1) M_Mo_laysFirst 0 0 2 [(2, v0), (0, v1), (0, 0)] [] kd m (zqV kd q))) : Ev (d + 1) M_Mo_laysFirst 0 0 0 [(2, v0), (0, v1), zJ] [] kd m (zqV kd q) := by
  refine EvX.blk (pc' := 2) [(.iconst 0, 0, 0), (.istore_n 2, 0, 0)] (by decide +kernel) trivial ?_
  show Ev (d + 1) M_Mo_laysFirst 0 0 2 [(2, v0), (0, v1), (0, 0)] [] kd m (zqV kd q)
  exact h
theorem S_Mo_laysFirst {d : Nat} {kd : ZK} {m : ZM} {q : ZM → Prop} {v0 v1 : Int} (h : (Ev (d + 1) M_Mo_laysFirst 0 0 2 [(2, v0), (0, v1), (0, 0)] [] kd m (zqV kd q))) : CtV (d + 1) M_Mo_laysFirst [(2, v0), (0, v1)] kd m q :=
  Ct.start k_Mo_laysFirst (Nat.le_of_ble_eq_true rfl) ⟨0, Or.inl ⟨rfl, rfl⟩⟩ (T_Mo_laysFirst_0 h)
set_option maxRecDepth 20000 in
set_option maxHeartbeats 1000000 in
theorem T_Mo_laysFirst_2 {d : Nat} {kd : ZK} {m : ZM} {q : ZM → Prop} {v0 v1 v2 : Int} (h : ((5 ≤ v2 → q m) ∧ (¬ 5 ≤ v2 → (zobj kd v0 8 ∧ ∃ q1, CtR d M_Mo_rowOf [(2, v0), (0, v1)] kd m q1 ∧ ∀ x2 m3, q1 x2 m3 → (zIn kd x2 0 v2 ∧ (Ev (d + 1) M_Mo_laysFirst 0 0 2 [(2, v0), (0, v1), (0, iw (v2 + 1))] [] kd (zup m3 x2 v2 0) (zqV kd q))))))) : Ev (d + 1) M_Mo_laysFirst 0 0 2 [(2, v0), (0, v1), (0, v2)] [] kd m (zqV kd q) := by
  refine EvX.blk (pc' := 4) [(.iload_n 2, 0, 0), (.iconst 5, 0, 0)] (by decide +kernel) trivial ?_
  show Ev (d + 1) M_Mo_laysFirst 0 0 4 [(2, v0), (0, v1), (0, v2)] [(0, 5), (0, v2)] kd m (zqV kd q)
  refine EvX.icmp_ge (off := 17) (tgt := 21) (by decide +kernel) (by decide) (fun hc => ?_) (fun hc => ?_)
  · have h := h.1 hc
    exact EvX.ret (r := zJ) (by decide +kernel) rfl ⟨rfl, rfl, h⟩
  · have h := h.2 hc
    refine EvX.blk (pc' := 9) [(.aload_n 0, 0, 0), (.iload_n 1, 0, 0)] (by decide +kernel) trivial ?_
    show Ev (d + 1) M_Mo_laysFirst 0 0 9 [(2, v0), (0, v1), (0, v2)] [(0, v1), (2, v0)] kd m (zqV kd q)
    obtain ⟨ov, h⟩ := h
    obtain ⟨q1, hq, h⟩ := h
    refine EvX.callV (c := 8) (mc := 0) (ms := 0) (as := [(0, v1)]) (st := []) (by decide +kernel) l_Mo_222 k_Mo_rowOf v_Mo_rowOf a_Mo_rowOf (by decide) (Nat.le_of_ble_eq_true rfl) rfl ov hq (fun r kd1 m3 hr => ?_)
    obtain ⟨x2, rfl, hk, hr⟩ := hr
    subst kd1
    have h := h x2 m3 hr
    show Ev (d + 1) M_Mo_laysFirst 0 0 12 [(2, v0), (0, v1), (0, v2)] [(2, x2)] kd m3 (zqV kd q)
    obtain ⟨o1, h⟩ := h
    refine EvX.blk (pc' := 18) [(.iload_n 2, 0, 0), (.iconst 0, 0, 0), (.iastore, 0, 0), (.iinc 2 1, 0, 0)] (by decide +kernel) trivial ⟨o1, ?_⟩
    show Ev (d + 1) M_Mo_laysFirst 0 0 18 [(2, v0), (0, v1), (0, iw (v2 + 1))] [] kd (zup m3 x2 v2 0) (zqV kd q)
    refine EvX.goto (off := (-16)) (tgt := 2) (by decide +kernel) (by decide) ?_
    exact h
set_option maxRecDepth 20000 in
set_option maxHeartbeats 1000000 in
theorem T_Mo_goesOn_0 {d : Nat} {kd : ZK} {m : ZM} {q : Int → ZM → Prop} {v0 v1 : Int} (h : (zobj kd v0 8 ∧ ∃ q1, CtR d M_Mo_rowOf [(2, v0), (0, v1)] kd m q1 ∧ ∀ x2 m3, q1 x2 m3 → (zobj kd v0 8 ∧ ∃ q4, CtI d M_Mo_questions [(2, v0), (0, v1)] kd m3 q4 ∧ ∀ x5 m6, q4 x5 m6 → (Ev (d + 1) M_Mo_goesOn 0 0 14 [(2, v0), (0, v1), (2, x2), (0, iw (x5 - 1))] [] kd m6 (zqI kd q))))) : Ev (d + 1) M_Mo_goesOn 0 0 0 [(2, v0), (0, v1), zJ, zJ] [] kd m (zqI kd q) := by
  refine EvX.blk (pc' := 2) [(.aload_n 0, 0, 0), (.iload_n 1, 0, 0)] (by decide +kernel) trivial ?_
  show Ev (d + 1) M_Mo_goesOn 0 0 2 [(2, v0), (0, v1), zJ, zJ] [(0, v1), (2, v0)] kd m (zqI kd q)
  obtain ⟨ov, h⟩ := h
  obtain ⟨q1, hq, h⟩ := h
  refine EvX.callV (c := 8) (mc := 0) (ms := 0) (as := [(0, v1)]) (st := []) (by decide +kernel) l_Mo_222 k_Mo_rowOf v_Mo_rowOf a_Mo_rowOf (by decide) (Nat.le_of_ble_eq_true rfl) rfl ov hq (fun r kd1 m3 hr => ?_)
  obtain ⟨x2, rfl, hk, hr⟩ := hr
  subst kd1
  have h := h x2 m3 hr
  show Ev (d + 1) M_Mo_goesOn 0 0 5 [(2, v0), (0, v1), zJ, zJ] [(2, x2)] kd m3 (zqI kd q)
  refine EvX.blk (pc' := 8) [(.astore_n 2, 0, 0), (.aload_n 0, 0, 0), (.iload_n 1, 0, 0)] (by decide +kernel) trivial ?_
  show Ev (d + 1) M_Mo_goesOn 0 0 8 [(2, v0), (0, v1), (2, x2), zJ] [(0, v1), (2, v0)] kd m3 (zqI kd q)
  obtain ⟨ov, h⟩ := h
  obtain ⟨q4, hq, h⟩ := h
  refine EvX.callV (c := 8) (mc := 0) (ms := 0) (as := [(0, v1)]) (st := []) (by decide +kernel) l_Mo_163 k_Mo_questions v_Mo_questions a_Mo_questions (by decide) (Nat.le_of_ble_eq_true rfl) rfl ov hq (fun r kd1 m6 hr => ?_)
  obtain ⟨x5, rfl, hk, hr⟩ := hr
  subst kd1
  have h := h x5 m6 hr
  show Ev (d + 1) M_Mo_goesOn 0 0 11 [(2, v0), (0, v1), (2, x2), zJ] [(0, x5)] kd m6 (zqI kd q)
  refine EvX.blk (pc' := 14) [(.iconst 1, 0, 0), (.isub, 0, 0), (.istore_n 3, 0, 0)] (by decide +kernel) trivial ?_
  show Ev (d + 1) M_Mo_goesOn 0 0 14 [(2, v0), (0, v1), (2, x2), (0, iw (x5 - 1))] [] kd m6 (zqI kd q)
  exact h
theorem S_Mo_goesOn {d : Nat} {kd : ZK} {m : ZM} {q : Int → ZM → Prop} {v0 v1 : Int} (h : (zobj kd v0 8 ∧ ∃ q1, CtR d M_Mo_rowOf [(2, v0), (0, v1)] kd m q1 ∧ ∀ x2 m3, q1 x2 m3 → (zobj kd v0 8 ∧ ∃ q4, CtI d M_Mo_questions [(2, v0), (0, v1)] kd m3 q4 ∧ ∀ x5 m6, q4 x5 m6 → (Ev (d + 1) M_Mo_goesOn 0 0 14 [(2, v0), (0, v1), (2, x2), (0, iw (x5 - 1))] [] kd m6 (zqI kd q))))) : CtI (d + 1) M_Mo_goesOn [(2, v0), (0, v1)] kd m q :=
  Ct.start k_Mo_goesOn (Nat.le_of_ble_eq_true rfl) ⟨2, Or.inr (Or.inr (Or.inl ⟨rfl, rfl⟩))⟩ (T_Mo_goesOn_0 h)
set_option maxRecDepth 20000 in
set_option maxHeartbeats 1000000 in
theorem T_Mo_goesOn_14 {d : Nat} {kd : ZK} {m : ZM} {q : Int → ZM → Prop} {v0 v1 v2 v3 : Int} (h : ((v3 < 0 → (Ev (d + 1) M_Mo_goesOn 0 0 41 [zJ, zJ, (2, v2), (0, v3)] [] kd m (zqI kd q))) ∧ (¬ v3 < 0 → (zIn kd v2 0 v3 ∧ (zobj kd v0 8 ∧ ∃ q1, CtI d M_Mo_answers [(2, v0), (0, v1)] kd m q1 ∧ ∀ x2 m3, q1 x2 m3 → (((m v2 v3) ≠ (iw (x2 - 1)) → (Ev (d + 1) M_Mo_goesOn 0 0 41 [zJ, zJ, (2, v2), (0, v3)] [] kd m3 (zqI kd q))) ∧ (¬ (m v2 v3) ≠ (iw (x2 - 1)) → (zIn kd v2 0 v3 ∧ (Ev (d + 1) M_Mo_goesOn 0 0 14 [(2, v0), (0, v1), (2, v2), (0, iw (v3 + (-1)))] [] kd (zup m3 v2 v3 0) (zqI kd q)))))))))) : Ev (d + 1) M_Mo_goesOn 0 0 14 [(2, v0), (0, v1), (2, v2), (0, v3)] [] kd m (zqI kd q) := by
  refine EvX.blk (pc' := 15) [(.iload_n 3, 0, 0)] (by decide +kernel) trivial ?_
  show Ev (d + 1) M_Mo_goesOn 0 0 15 [(2, v0), (0, v1), (2, v2), (0, v3)] [(0, v3)] kd m (zqI kd q)
  refine EvX.if_lt (off := 26) (tgt := 41) (by decide +kernel) (by decide) (fun hc => ?_) (fun hc => ?_)
  · have h := h.1 hc
    exact EvX.weak (ls2 := [zJ, zJ, (2, v2), (0, v3)]) (zwk_of ⟨Or.inl rfl, Or.inl rfl, Or.inr rfl, Or.inr rfl, trivial⟩) h
  · have h := h.2 hc
    obtain ⟨o1, h⟩ := h
    refine EvX.blk (pc' := 23) [(.aload_n 2, 0, 0), (.iload_n 3, 0, 0), (.iaload, 0, 0), (.aload_n 0, 0, 0), (.iload_n 1, 0, 0)] (by decide +kernel) trivial ⟨o1, ?_⟩
    show Ev (d + 1) M_Mo_goesOn 0 0 23 [(2, v0), (0, v1), (2, v2), (0, v3)] [(0, v1), (2, v0), (0, m v2 v3)] kd m (zqI kd q)
    obtain ⟨ov, h⟩ := h
    obtain ⟨q1, hq, h⟩ := h
    refine EvX.callV (c := 8) (mc := 0) (ms := 0) (as := [(0, v1)]) (st := [(0, m v2 v3)]) (by decide +kernel) l_Mo_167 k_Mo_answers v_Mo_answers a_Mo_answers (by decide) (Nat.le_of_ble_eq_true rfl) rfl ov hq (fun r kd1 m3 hr => ?_)
    obtain ⟨x2, rfl, hk, hr⟩ := hr
    subst kd1
    have h := h x2 m3 hr
    show Ev (d + 1) M_Mo_goesOn 0 0 26 [(2, v0), (0, v1), (2, v2), (0, v3)] [(0, x2), (0, m v2 v3)] kd m3 (zqI kd q)
    refine EvX.blk (pc' := 28) [(.iconst 1, 0, 0), (.isub, 0, 0)] (by decide +kernel) trivial ?_
    show Ev (d + 1) M_Mo_goesOn 0 0 28 [(2, v0), (0, v1), (2, v2), (0, v3)] [(0, iw (x2 - 1)), (0, m v2 v3)] kd m3 (zqI kd q)
    refine EvX.icmp_ne (off := 13) (tgt := 41) (by decide +kernel) (by decide) (fun hc => ?_) (fun hc => ?_)
    · have h := h.1 hc
      exact EvX.weak (ls2 := [zJ, zJ, (2, v2), (0, v3)]) (zwk_of ⟨Or.inl rfl, Or.inl rfl, Or.inr rfl, Or.inr rfl, trivial⟩) h
    · have h := h.2 hc
      obtain ⟨o1, h⟩ := h
      refine EvX.blk (pc' := 38) [(.aload_n 2, 0, 0), (.iload_n 3, 0, 0), (.iconst 0, 0, 0), (.iastore, 0, 0), (.iinc 3 (-1), 0, 0)] (by decide +kernel) trivial ⟨o1, ?_⟩
      show Ev (d + 1) M_Mo_goesOn 0 0 38 [(2, v0), (0, v1), (2, v2), (0, iw (v3 + (-1)))] [] kd (zup m3 v2 v3 0) (zqI kd q)
      refine EvX.goto (off := (-24)) (tgt := 14) (by decide +kernel) (by decide) ?_
      exact h
set_option maxRecDepth 20000 in
set_option maxHeartbeats 1000000 in
theorem T_Mo_goesOn_41 {d : Nat} {kd : ZK} {m : ZM} {q : Int → ZM → Prop} {v2 v3 : Int} (h : ((v3 < 0 → ((v3 < 0 → q 0 m) ∧ (¬ v3 < 0 → q 1 m))) ∧ (¬ v3 < 0 → (zIn kd v2 0 v3 ∧ zIn kd v2 0 v3 ∧ ((v3 < 0 → q 0 (zup m v2 v3 (iw ((m v2 v3) + 1)))) ∧ (¬ v3 < 0 → q 1 (zup m v2 v3 (iw ((m v2 v3) + 1))))))))) : Ev (d + 1) M_Mo_goesOn 0 0 41 [zJ, zJ, (2, v2), (0, v3)] [] kd m (zqI kd q) := by
  refine EvX.blk (pc' := 42) [(.iload_n 3, 0, 0)] (by decide +kernel) trivial ?_
  show Ev (d + 1) M_Mo_goesOn 0 0 42 [zJ, zJ, (2, v2), (0, v3)] [(0, v3)] kd m (zqI kd q)
  refine EvX.if_lt (off := 10) (tgt := 52) (by decide +kernel) (by decide) (fun hc => ?_) (fun hc => ?_)
  · have h := h.1 hc
    refine EvX.blk (pc' := 53) [(.iload_n 3, 0, 0)] (by decide +kernel) trivial ?_
    show Ev (d + 1) M_Mo_goesOn 0 0 53 [zJ, zJ, (2, v2), (0, v3)] [(0, v3)] kd m (zqI kd q)
    refine EvX.if_lt (off := 7) (tgt := 60) (by decide +kernel) (by decide) (fun hc => ?_) (fun hc => ?_)
    · have h := h.1 hc
      refine EvX.blk (pc' := 61) [(.iconst 0, 0, 0)] (by decide +kernel) trivial ?_
      show Ev (d + 1) M_Mo_goesOn 0 0 61 [zJ, zJ, (2, v2), (0, v3)] [(0, 0)] kd m (zqI kd q)
      exact EvX.ret (r := (0, 0)) (by decide +kernel) ⟨rfl, by decide, by decide⟩ ⟨_, rfl, rfl, h⟩
    · have h := h.2 hc
      refine EvX.blk (pc' := 57) [(.iconst 1, 0, 0)] (by decide +kernel) trivial ?_
      show Ev (d + 1) M_Mo_goesOn 0 0 57 [zJ, zJ, (2, v2), (0, v3)] [(0, 1)] kd m (zqI kd q)
      refine EvX.goto (off := 4) (tgt := 61) (by decide +kernel) (by decide) ?_
      exact EvX.ret (r := (0, 1)) (by decide +kernel) ⟨rfl, by decide, by decide⟩ ⟨_, rfl, rfl, h⟩
  · have h := h.2 hc
    obtain ⟨o1, o2, h⟩ := h
    refine EvX.blk (pc' := 53) [(.aload_n 2, 0, 0), (.iload_n 3, 0, 0), (.dup2, 0, 0), (.iaload, 0, 0), (.iconst 1, 0, 0), (.iadd, 0, 0), (.iastore, 0, 0), (.iload_n 3, 0, 0)] (by decide +kernel) trivial ⟨o1, o2, ?_⟩
    show Ev (d + 1) M_Mo_goesOn 0 0 53 [zJ, zJ, (2, v2), (0, v3)] [(0, v3)] kd (zup m v2 v3 (iw ((m v2 v3) + 1))) (zqI kd q)
    refine EvX.if_lt (off := 7) (tgt := 60) (by decide +kernel) (by decide) (fun hc => ?_) (fun hc => ?_)
    · have h := h.1 hc
      refine EvX.blk (pc' := 61) [(.iconst 0, 0, 0)] (by decide +kernel) trivial ?_
      show Ev (d + 1) M_Mo_goesOn 0 0 61 [zJ, zJ, (2, v2), (0, v3)] [(0, 0)] kd (zup m v2 v3 (iw ((m v2 v3) + 1))) (zqI kd q)
      exact EvX.ret (r := (0, 0)) (by decide +kernel) ⟨rfl, by decide, by decide⟩ ⟨_, rfl, rfl, h⟩
    · have h := h.2 hc
      refine EvX.blk (pc' := 57) [(.iconst 1, 0, 0)] (by decide +kernel) trivial ?_
      show Ev (d + 1) M_Mo_goesOn 0 0 57 [zJ, zJ, (2, v2), (0, v3)] [(0, 1)] kd (zup m v2 v3 (iw ((m v2 v3) + 1))) (zqI kd q)
      refine EvX.goto (off := 4) (tgt := 61) (by decide +kernel) (by decide) ?_
      exact EvX.ret (r := (0, 1)) (by decide +kernel) ⟨rfl, by decide, by decide⟩ ⟨_, rfl, rfl, h⟩
set_option maxRecDepth 20000 in
set_option maxHeartbeats 1000000 in
theorem T_Mo_worthNow_0 {d : Nat} {kd : ZK} {m : ZM} {q : Int → ZM → Prop} {v0 : Int} (h : (Ev (d + 1) M_Mo_worthNow 0 0 4 [(2, v0), (0, 0), (0, 0), zJ] [] kd m (zqI kd q))) : Ev (d + 1) M_Mo_worthNow 0 0 0 [(2, v0), zJ, zJ, zJ] [] kd m (zqI kd q) := by
  refine EvX.blk (pc' := 4) [(.iconst 0, 0, 0), (.istore_n 1, 0, 0), (.iconst 0, 0, 0), (.istore_n 2, 0, 0)] (by decide +kernel) trivial ?_
  show Ev (d + 1) M_Mo_worthNow 0 0 4 [(2, v0), (0, 0), (0, 0), zJ] [] kd m (zqI kd q)
  exact h
theorem S_Mo_worthNow {d : Nat} {kd : ZK} {m : ZM} {q : Int → ZM → Prop} {v0 : Int} (h : (Ev (d + 1) M_Mo_worthNow 0 0 4 [(2, v0), (0, 0), (0, 0), zJ] [] kd m (zqI kd q))) : CtI (d + 1) M_Mo_worthNow [(2, v0)] kd m q :=
  Ct.start k_Mo_worthNow (Nat.le_of_ble_eq_true rfl) ⟨1, Or.inr (Or.inl ⟨rfl, rfl⟩)⟩ (T_Mo_worthNow_0 h)
set_option maxRecDepth 20000 in
set_option maxHeartbeats 1000000 in
theorem T_Mo_worthNow_4 {d : Nat} {kd : ZK} {m : ZM} {q : Int → ZM → Prop} {v0 v1 v2 : Int} (h : (zobj kd v0 8 ∧ ∃ q1, CtI d M_Mo_questions [(2, v0), (0, 0)] kd m q1 ∧ ∀ x2 m3, q1 x2 m3 → ((x2 ≤ v2 → q v1 m3) ∧ (¬ x2 ≤ v2 → (Ev (d + 1) M_Mo_worthNow 0 0 15 [(2, v0), (0, v1), (0, v2), (0, 0)] [] kd m3 (zqI kd q)))))) : Ev (d + 1) M_Mo_worthNow 0 0 4 [(2, v0), (0, v1), (0, v2), zJ] [] kd m (zqI kd q) := by
  refine EvX.blk (pc' := 7) [(.iload_n 2, 0, 0), (.aload_n 0, 0, 0), (.iconst 0, 0, 0)] (by decide +kernel) trivial ?_
  show Ev (d + 1) M_Mo_worthNow 0 0 7 [(2, v0), (0, v1), (0, v2), zJ] [(0, 0), (2, v0), (0, v2)] kd m (zqI kd q)
  obtain ⟨ov, h⟩ := h
  obtain ⟨q1, hq, h⟩ := h
  refine EvX.callV (c := 8) (mc := 0) (ms := 0) (as := [(0, 0)]) (st := [(0, v2)]) (by decide +kernel) l_Mo_163 k_Mo_questions v_Mo_questions a_Mo_questions (by decide) (Nat.le_of_ble_eq_true rfl) rfl ov hq (fun r kd1 m3 hr => ?_)
  obtain ⟨x2, rfl, hk, hr⟩ := hr
  subst kd1
  have h := h x2 m3 hr
  show Ev (d + 1) M_Mo_worthNow 0 0 10 [(2, v0), (0, v1), (0, v2), zJ] [(0, x2), (0, v2)] kd m3 (zqI kd q)
  refine EvX.icmp_ge (off := 60) (tgt := 70) (by decide +kernel) (by decide) (fun hc => ?_) (fun hc => ?_)
  · have h := h.1 hc
    refine EvX.blk (pc' := 71) [(.iload_n 1, 0, 0)] (by decide +kernel) trivial ?_
    show Ev (d + 1) M_Mo_worthNow 0 0 71 [(2, v0), (0, v1), (0, v2), zJ] [(0, v1)] kd m3 (zqI kd q)
    exact EvX.ret (r := (0, v1)) (by decide +kernel) rfl ⟨_, rfl, rfl, h⟩
  · have h := h.2 hc
    refine EvX.blk (pc' := 15) [(.iconst 0, 0, 0), (.istore_n 3, 0, 0)] (by decide +kernel) trivial ?_
    show Ev (d + 1) M_Mo_worthNow 0 0 15 [(2, v0), (0, v1), (0, v2), (0, 0)] [] kd m3 (zqI kd q)
    exact h
set_option maxRecDepth 20000 in
set_option maxHeartbeats 1000000 in
theorem T_Mo_worthNow_15 {d : Nat} {kd : ZK} {m : ZM} {q : Int → ZM → Prop} {v0 v1 v2 v3 : Int} (h : (zobj kd v0 8 ∧ ∃ q1, CtI d M_Mo_questions [(2, v0), (0, 1)] kd m q1 ∧ ∀ x2 m3, q1 x2 m3 → ((x2 ≤ v3 → (Ev (d + 1) M_Mo_worthNow 0 0 4 [(2, v0), (0, v1), (0, iw (v2 + 1)), zJ] [] kd m3 (zqI kd q))) ∧ (¬ x2 ≤ v3 → (zobj kd v0 8 ∧ zIn kd (m3 v0 12) 0 v2 ∧ zobj kd v0 8 ∧ zIn kd (m3 v0 13) 0 v3 ∧ (zobj kd v0 8 ∧ ∃ q4, CtI d M_Mo_isWin [(2, v0), (0, v2), (0, v3), (0, m3 (m3 v0 12) v2), (0, m3 (m3 v0 13) v3)] kd m3 q4 ∧ ∀ x5 m6, q4 x5 m6 → ((x5 = 0 → (Ev (d + 1) M_Mo_worthNow 0 0 15 [(2, v0), (0, iw (v1 + 0)), (0, v2), (0, iw (v3 + 1))] [] kd m6 (zqI kd q))) ∧ (¬ x5 = 0 → (zobj kd v0 8 ∧ ∃ q7, CtI d M_Mo_weightOf [(2, v0), (0, v2), (0, v3)] kd m6 q7 ∧ ∀ x8 m9, q7 x8 m9 → (Ev (d + 1) M_Mo_worthNow 0 0 15 [(2, v0), (0, iw (v1 + x8)), (0, v2), (0, iw (v3 + 1))] [] kd m9 (zqI kd q))))))))))) : Ev (d + 1) M_Mo_worthNow 0 0 15 [(2, v0), (0, v1), (0, v2), (0, v3)] [] kd m (zqI kd q) := by
  refine EvX.blk (pc' := 18) [(.iload_n 3, 0, 0), (.aload_n 0, 0, 0), (.iconst 1, 0, 0)] (by decide +kernel) trivial ?_
  show Ev (d + 1) M_Mo_worthNow 0 0 18 [(2, v0), (0, v1), (0, v2), (0, v3)] [(0, 1), (2, v0), (0, v3)] kd m (zqI kd q)
  obtain ⟨ov, h⟩ := h
  obtain ⟨q1, hq, h⟩ := h
  refine EvX.callV (c := 8) (mc := 0) (ms := 0) (as := [(0, 1)]) (st := [(0, v3)]) (by decide +kernel) l_Mo_163 k_Mo_questions v_Mo_questions a_Mo_questions (by decide) (Nat.le_of_ble_eq_true rfl) rfl ov hq (fun r kd1 m3 hr => ?_)
  obtain ⟨x2, rfl, hk, hr⟩ := hr
  subst kd1
  have h := h x2 m3 hr
  show Ev (d + 1) M_Mo_worthNow 0 0 21 [(2, v0), (0, v1), (0, v2), (0, v3)] [(0, x2), (0, v3)] kd m3 (zqI kd q)
  refine EvX.icmp_ge (off := 43) (tgt := 64) (by decide +kernel) (by decide) (fun hc => ?_) (fun hc => ?_)
  · have h := h.1 hc
    refine EvX.blk (pc' := 67) [(.iinc 2 1, 0, 0)] (by decide +kernel) trivial ?_
    show Ev (d + 1) M_Mo_worthNow 0 0 67 [(2, v0), (0, v1), (0, iw (v2 + 1)), (0, v3)] [] kd m3 (zqI kd q)
    refine EvX.goto (off := (-63)) (tgt := 4) (by decide +kernel) (by decide) ?_
    exact EvX.weak (ls2 := [(2, v0), (0, v1), (0, iw (v2 + 1)), zJ]) (zwk_of ⟨Or.inr rfl, Or.inr rfl, Or.inr rfl, Or.inl rfl, trivial⟩) h
  · have h := h.2 hc
    obtain ⟨o1, o2, o3, o4, h⟩ := h
    refine EvX.blk (pc' := 40) [(.iload_n 1, 0, 0), (.aload_n 0, 0, 0), (.iload_n 2, 0, 0), (.iload_n 3, 0, 0), (.aload_n 0, 0, 0), (.getfield 33, 8, 12), (.iload_n 2, 0, 0), (.iaload, 0, 0), (.aload_n 0, 0, 0), (.getfield 36, 8, 13), (.iload_n 3, 0, 0), (.iaload, 0, 0)] (by decide +kernel) ⟨g_Mo_33, g_Mo_36, trivial⟩ ⟨o1, o2, o3, o4, ?_⟩
    show Ev (d + 1) M_Mo_worthNow 0 0 40 [(2, v0), (0, v1), (0, v2), (0, v3)] [(0, m3 (m3 v0 13) v3), (0, m3 (m3 v0 12) v2), (0, v3), (0, v2), (2, v0), (0, v1)] kd m3 (zqI kd q)
    obtain ⟨ov, h⟩ := h
    obtain ⟨q4, hq, h⟩ := h
    refine EvX.callV (c := 8) (mc := 0) (ms := 0) (as := [(0, v2), (0, v3), (0, m3 (m3 v0 12) v2), (0, m3 (m3 v0 13) v3)]) (st := [(0, v1)]) (by decide +kernel) l_Mo_197 k_Mo_isWin v_Mo_isWin a_Mo_isWin (by decide) (Nat.le_of_ble_eq_true rfl) rfl ov hq (fun r kd1 m6 hr => ?_)
    obtain ⟨x5, rfl, hk, hr⟩ := hr
    subst kd1
    have h := h x5 m6 hr
    show Ev (d + 1) M_Mo_worthNow 0 0 43 [(2, v0), (0, v1), (0, v2), (0, v3)] [(0, x5), (0, v1)] kd m6 (zqI kd q)
    refine EvX.if_eq (off := 12) (tgt := 55) (by decide +kernel) (by decide) (fun hc => ?_) (fun hc => ?_)
    · have h := h.1 hc
      refine EvX.blk (pc' := 61) [(.iconst 0, 0, 0), (.iadd, 0, 0), (.istore_n 1, 0, 0), (.iinc 3 1, 0, 0)] (by decide +kernel) trivial ?_
      show Ev (d + 1) M_Mo_worthNow 0 0 61 [(2, v0), (0, iw (v1 + 0)), (0, v2), (0, iw (v3 + 1))] [] kd m6 (zqI kd q)
      refine EvX.goto (off := (-46)) (tgt := 15) (by decide +kernel) (by decide) ?_
      exact h
    · have h := h.2 hc
      refine EvX.blk (pc' := 49) [(.aload_n 0, 0, 0), (.iload_n 2, 0, 0), (.iload_n 3, 0, 0)] (by decide +kernel) trivial ?_
      show Ev (d + 1) M_Mo_worthNow 0 0 49 [(2, v0), (0, v1), (0, v2), (0, v3)] [(0, v3), (0, v2), (2, v0), (0, v1)] kd m6 (zqI kd q)
      obtain ⟨ov, h⟩ := h
      obtain ⟨q7, hq, h⟩ := h
      refine EvX.callV (c := 8) (mc := 0) (ms := 0) (as := [(0, v2), (0, v3)]) (st := [(0, v1)]) (by decide +kernel) l_Mo_180 k_Mo_weightOf v_Mo_weightOf a_Mo_weightOf (by decide) (Nat.le_of_ble_eq_true rfl) rfl ov hq (fun r kd1 m9 hr => ?_)
      obtain ⟨x8, rfl, hk, hr⟩ := hr
      subst kd1
      have h := h x8 m9 hr
      show Ev (d + 1) M_Mo_worthNow 0 0 52 [(2, v0), (0, v1), (0, v2), (0, v3)] [(0, x8), (0, v1)] kd m9 (zqI kd q)
      refine EvX.goto (off := 4) (tgt := 56) (by decide +kernel) (by decide) ?_
      refine EvX.blk (pc' := 61) [(.iadd, 0, 0), (.istore_n 1, 0, 0), (.iinc 3 1, 0, 0)] (by decide +kernel) trivial ?_
      show Ev (d + 1) M_Mo_worthNow 0 0 61 [(2, v0), (0, iw (v1 + x8)), (0, v2), (0, iw (v3 + 1))] [] kd m9 (zqI kd q)
      refine EvX.goto (off := (-46)) (tgt := 15) (by decide +kernel) (by decide) ?_
      exact h
set_option maxRecDepth 20000 in
set_option maxHeartbeats 1000000 in
theorem T_Mo_mix_0 {d : Nat} {kd : ZK} {m : ZM} {q : Int → ZM → Prop} {v0 v1 v2 v3 : Int} (h : (zobj kd v0 8 ∧ ∃ q1, CtI d M_Mo_lays [(2, v0), (0, 0), (0, v1)] kd m q1 ∧ ∀ x2 m3, q1 x2 m3 → ((x2 = 0 → q (-1) m3) ∧ (¬ x2 = 0 → (zobj kd v0 8 ∧ ∃ q4, CtI d M_Mo_lays [(2, v0), (0, 1), (0, v2)] kd m3 q4 ∧ ∀ x5 m6, q4 x5 m6 → ((x5 = 0 → q (-1) m6) ∧ (¬ x5 = 0 → (∃ q7, CtI d M_Mo_in [(1, v3), (1, 1), (1, 12)] kd m6 q7 ∧ ∀ x8 m9, q7 x8 m9 → ((x8 ≠ 0 → (Ev (d + 1) M_Mo_mix 0 0 35 [(2, v0), zJ, zJ, (0, v3), (0, 0), zJ] [] kd m9 (zqI kd q))) ∧ (¬ x8 ≠ 0 → q (-1) m9)))))))))) : Ev (d + 1) M_Mo_mix 0 0 0 [(2, v0), (0, v1), (0, v2), (0, v3), zJ, zJ] [] kd m (zqI kd q) := by
  refine EvX.blk (pc' := 3) [(.aload_n 0, 0, 0), (.iconst 0, 0, 0), (.iload_n 1, 0, 0)] (by decide +kernel) trivial ?_
  show Ev (d + 1) M_Mo_mix 0 0 3 [(2, v0), (0, v1), (0, v2), (0, v3), zJ, zJ] [(0, v1), (0, 0), (2, v0)] kd m (zqI kd q)
  obtain ⟨ov, h⟩ := h
  obtain ⟨q1, hq, h⟩ := h
  refine EvX.callV (c := 8) (mc := 0) (ms := 0) (as := [(0, 0), (0, v1)]) (st := []) (by decide +kernel) l_Mo_229 k_Mo_lays v_Mo_lays a_Mo_lays (by decide) (Nat.le_of_ble_eq_true rfl) rfl ov hq (fun r kd1 m3 hr => ?_)
  obtain ⟨x2, rfl, hk, hr⟩ := hr
  subst kd1
  have h := h x2 m3 hr
  show Ev (d + 1) M_Mo_mix 0 0 6 [(2, v0), (0, v1), (0, v2), (0, v3), zJ, zJ] [(0, x2)] kd m3 (zqI kd q)
  refine EvX.if_eq (off := 24) (tgt := 30) (by decide +kernel) (by decide) (fun hc => ?_) (fun hc => ?_)
  · have h := h.1 hc
    refine EvX.blk (pc' := 31) [(.iconst (-1), 0, 0)] (by decide +kernel) trivial ?_
    show Ev (d + 1) M_Mo_mix 0 0 31 [(2, v0), (0, v1), (0, v2), (0, v3), zJ, zJ] [(0, (-1))] kd m3 (zqI kd q)
    exact EvX.ret (r := (0, (-1))) (by decide +kernel) rfl ⟨_, rfl, rfl, h⟩
  · have h := h.2 hc
    refine EvX.blk (pc' := 12) [(.aload_n 0, 0, 0), (.iconst 1, 0, 0), (.iload_n 2, 0, 0)] (by decide +kernel) trivial ?_
    show Ev (d + 1) M_Mo_mix 0 0 12 [(2, v0), (0, v1), (0, v2), (0, v3), zJ, zJ] [(0, v2), (0, 1), (2, v0)] kd m3 (zqI kd q)
    obtain ⟨ov, h⟩ := h
    obtain ⟨q4, hq, h⟩ := h
    refine EvX.callV (c := 8) (mc := 0) (ms := 0) (as := [(0, 1), (0, v2)]) (st := []) (by decide +kernel) l_Mo_229 k_Mo_lays v_Mo_lays a_Mo_lays (by decide) (Nat.le_of_ble_eq_true rfl) rfl ov hq (fun r kd1 m6 hr => ?_)
    obtain ⟨x5, rfl, hk, hr⟩ := hr
    subst kd1
    have h := h x5 m6 hr
    show Ev (d + 1) M_Mo_mix 0 0 15 [(2, v0), (0, v1), (0, v2), (0, v3), zJ, zJ] [(0, x5)] kd m6 (zqI kd q)
    refine EvX.if_eq (off := 15) (tgt := 30) (by decide +kernel) (by decide) (fun hc => ?_) (fun hc => ?_)
    · have h := h.1 hc
      refine EvX.blk (pc' := 31) [(.iconst (-1), 0, 0)] (by decide +kernel) trivial ?_
      show Ev (d + 1) M_Mo_mix 0 0 31 [(2, v0), (0, v1), (0, v2), (0, v3), zJ, zJ] [(0, (-1))] kd m6 (zqI kd q)
      exact EvX.ret (r := (0, (-1))) (by decide +kernel) rfl ⟨_, rfl, rfl, h⟩
    · have h := h.2 hc
      refine EvX.blk (pc' := 24) [(.iload_n 3, 0, 0), (.i2l, 0, 0), (.lconst 1, 0, 0), (.ldc2_w 195, 0, 12)] (by decide +kernel) ⟨z_Mo_195, trivial⟩ ?_
      show Ev (d + 1) M_Mo_mix 0 0 24 [(2, v0), (0, v1), (0, v2), (0, v3), zJ, zJ] [(1, 12), (1, 1), (1, v3)] kd m6 (zqI kd q)
      obtain ⟨q7, hq, h⟩ := h
      refine EvX.callS (mc := 0) (ms := 0) (as := [(1, v3), (1, 1), (1, 12)]) (st := []) (by decide +kernel) l_Mo_93 k_Mo_in s_Mo_in a_Mo_in (by decide) (Nat.le_of_ble_eq_true rfl) hq (fun r kd1 m9 hr => ?_)
      obtain ⟨x8, rfl, hk, hr⟩ := hr
      subst kd1
      have h := h x8 m9 hr
      show Ev (d + 1) M_Mo_mix 0 0 27 [(2, v0), (0, v1), (0, v2), (0, v3), zJ, zJ] [(0, x8)] kd m9 (zqI kd q)
      refine EvX.if_ne (off := 5) (tgt := 32) (by decide +kernel) (by decide) (fun hc => ?_) (fun hc => ?_)
      · have h := h.1 hc
        refine EvX.blk (pc' := 35) [(.iconst 0, 0, 0), (.istore 4, 0, 0)] (by decide +kernel) trivial ?_
        show Ev (d + 1) M_Mo_mix 0 0 35 [(2, v0), (0, v1), (0, v2), (0, v3), (0, 0), zJ] [] kd m9 (zqI kd q)
        exact EvX.weak (ls2 := [(2, v0), zJ, zJ, (0, v3), (0, 0), zJ]) (zwk_of ⟨Or.inr rfl, Or.inl rfl, Or.inl rfl, Or.inr rfl, Or.inr rfl, Or.inl rfl, trivial⟩) h
      · have h := h.2 hc
        refine EvX.blk (pc' := 31) [(.iconst (-1), 0, 0)] (by decide +kernel) trivial ?_
        show Ev (d + 1) M_Mo_mix 0 0 31 [(2, v0), (0, v1), (0, v2), (0, v3), zJ, zJ] [(0, (-1))] kd m9 (zqI kd q)
        exact EvX.ret (r := (0, (-1))) (by decide +kernel) rfl ⟨_, rfl, rfl, h⟩
theorem S_Mo_mix {d : Nat} {kd : ZK} {m : ZM} {q : Int → ZM → Prop} {v0 v1 v2 v3 : Int} (h : (zobj kd v0 8 ∧ ∃ q1, CtI d M_Mo_lays [(2, v0), (0, 0), (0, v1)] kd m q1 ∧ ∀ x2 m3, q1 x2 m3 → ((x2 = 0 → q (-1) m3) ∧ (¬ x2 = 0 → (zobj kd v0 8 ∧ ∃ q4, CtI d M_Mo_lays [(2, v0), (0, 1), (0, v2)] kd m3 q4 ∧ ∀ x5 m6, q4 x5 m6 → ((x5 = 0 → q (-1) m6) ∧ (¬ x5 = 0 → (∃ q7, CtI d M_Mo_in [(1, v3), (1, 1), (1, 12)] kd m6 q7 ∧ ∀ x8 m9, q7 x8 m9 → ((x8 ≠ 0 → (Ev (d + 1) M_Mo_mix 0 0 35 [(2, v0), zJ, zJ, (0, v3), (0, 0), zJ] [] kd m9 (zqI kd q))) ∧ (¬ x8 ≠ 0 → q (-1) m9)))))))))) : CtI (d + 1) M_Mo_mix [(2, v0), (0, v1), (0, v2), (0, v3)] kd m q :=
  Ct.start k_Mo_mix (Nat.le_of_ble_eq_true rfl) ⟨1, Or.inr (Or.inl ⟨rfl, rfl⟩)⟩ (T_Mo_mix_0 h)
set_option maxRecDepth 20000 in
set_option maxHeartbeats 1000000 in
theorem T_Mo_mix_35 {d : Nat} {kd : ZK} {m : ZM} {q : Int → ZM → Prop} {v0 v3 v4 : Int} (h : (zobj kd v0 8 ∧ ∃ q1, CtI d M_Mo_questions [(2, v0), (0, 0)] kd m q1 ∧ ∀ x2 m3, q1 x2 m3 → ((x2 ≤ v4 → (zobj kd v0 8 ∧ ∃ q4, CtV d M_Mo_keepsPast [(2, v0)] kd m3 q4 ∧ ∀ m6, q4 m6 → (Ev (d + 1) M_Mo_mix 0 0 109 [(2, v0), zJ, zJ, (0, v3), (0, 0), zJ] [] kd m6 (zqI kd q)))) ∧ (¬ x2 ≤ v4 → (Ev (d + 1) M_Mo_mix 0 0 48 [(2, v0), zJ, zJ, (0, v3), (0, v4), (0, 0)] [] kd m3 (zqI kd q)))))) : Ev (d + 1) M_Mo_mix 0 0 35 [(2, v0), zJ, zJ, (0, v3), (0, v4), zJ] [] kd m (zqI kd q) := by
  refine EvX.blk (pc' := 39) [(.iload 4, 0, 0), (.aload_n 0, 0, 0), (.iconst 0, 0, 0)] (by decide +kernel) trivial ?_
  show Ev (d + 1) M_Mo_mix 0 0 39 [(2, v0), zJ, zJ, (0, v3), (0, v4), zJ] [(0, 0), (2, v0), (0, v4)] kd m (zqI kd q)
  obtain ⟨ov, h⟩ := h
  obtain ⟨q1, hq, h⟩ := h
  refine EvX.callV (c := 8) (mc := 0) (ms := 0) (as := [(0, 0)]) (st := [(0, v4)]) (by decide +kernel) l_Mo_163 k_Mo_questions v_Mo_questions a_Mo_questions (by decide) (Nat.le_of_ble_eq_true rfl) rfl ov hq (fun r kd1 m3 hr => ?_)
  obtain ⟨x2, rfl, hk, hr⟩ := hr
  subst kd1
  have h := h x2 m3 hr
  show Ev (d + 1) M_Mo_mix 0 0 42 [(2, v0), zJ, zJ, (0, v3), (0, v4), zJ] [(0, x2), (0, v4)] kd m3 (zqI kd q)
  refine EvX.icmp_ge (off := 60) (tgt := 102) (by decide +kernel) (by decide) (fun hc => ?_) (fun hc => ?_)
  · have h := h.1 hc
    refine EvX.blk (pc' := 103) [(.aload_n 0, 0, 0)] (by decide +kernel) trivial ?_
    show Ev (d + 1) M_Mo_mix 0 0 103 [(2, v0), zJ, zJ, (0, v3), (0, v4), zJ] [(2, v0)] kd m3 (zqI kd q)
    obtain ⟨ov, h⟩ := h
    obtain ⟨q4, hq, h⟩ := h
    refine EvX.callV (c := 8) (mc := 0) (ms := 0) (as := []) (st := []) (by decide +kernel) l_Mo_183 k_Mo_keepsPast v_Mo_keepsPast a_Mo_keepsPast (by decide) (Nat.le_of_ble_eq_true rfl) rfl ov hq (fun r kd1 m6 hr => ?_)
    obtain ⟨rfl, hk, hr⟩ := hr
    subst kd1
    have h := h m6 hr
    show Ev (d + 1) M_Mo_mix 0 0 106 [(2, v0), zJ, zJ, (0, v3), (0, v4), zJ] [] kd m6 (zqI kd q)
    refine EvX.blk (pc' := 109) [(.iconst 0, 0, 0), (.istore 4, 0, 0)] (by decide +kernel) trivial ?_
    show Ev (d + 1) M_Mo_mix 0 0 109 [(2, v0), zJ, zJ, (0, v3), (0, 0), zJ] [] kd m6 (zqI kd q)
    exact h
  · have h := h.2 hc
    refine EvX.blk (pc' := 48) [(.iconst 0, 0, 0), (.istore 5, 0, 0)] (by decide +kernel) trivial ?_
    show Ev (d + 1) M_Mo_mix 0 0 48 [(2, v0), zJ, zJ, (0, v3), (0, v4), (0, 0)] [] kd m3 (zqI kd q)
    exact h
set_option maxRecDepth 20000 in
set_option maxHeartbeats 1000000 in
theorem T_Mo_mix_48 {d : Nat} {kd : ZK} {m : ZM} {q : Int → ZM → Prop} {v0 v3 v4 v5 : Int} (h : (zobj kd v0 8 ∧ ∃ q1, CtI d M_Mo_questions [(2, v0), (0, 1)] kd m q1 ∧ ∀ x2 m3, q1 x2 m3 → ((x2 ≤ v5 → (Ev (d + 1) M_Mo_mix 0 0 35 [(2, v0), zJ, zJ, (0, v3), (0, iw (v4 + 1)), zJ] [] kd m3 (zqI kd q))) ∧ (¬ x2 ≤ v5 → (zobj kd v0 8 ∧ zIn kd (m3 v0 12) 0 v4 ∧ zobj kd v0 8 ∧ zIn kd (m3 v0 13) 0 v5 ∧ (zobj kd v0 8 ∧ ∃ q4, CtI d M_Mo_boxOf [(2, v0), (0, v4), (0, v5), (0, m3 (m3 v0 12) v4), (0, m3 (m3 v0 13) v5)] kd m3 q4 ∧ ∀ x5 m6, q4 x5 m6 → (((iw (x5 + v3)) ≤ 12 → (Ev (d + 1) M_Mo_mix 0 0 48 [(2, v0), zJ, zJ, (0, v3), (0, v4), (0, iw (v5 + 1))] [] kd m6 (zqI kd q))) ∧ (¬ (iw (x5 + v3)) ≤ 12 → q (-2) m6)))))))) : Ev (d + 1) M_Mo_mix 0 0 48 [(2, v0), zJ, zJ, (0, v3), (0, v4), (0, v5)] [] kd m (zqI kd q) := by
  refine EvX.blk (pc' := 52) [(.iload 5, 0, 0), (.aload_n 0, 0, 0), (.iconst 1, 0, 0)] (by decide +kernel) trivial ?_
  show Ev (d + 1) M_Mo_mix 0 0 52 [(2, v0), zJ, zJ, (0, v3), (0, v4), (0, v5)] [(0, 1), (2, v0), (0, v5)] kd m (zqI kd q)
  obtain ⟨ov, h⟩ := h
  obtain ⟨q1, hq, h⟩ := h
  refine EvX.callV (c := 8) (mc := 0) (ms := 0) (as := [(0, 1)]) (st := [(0, v5)]) (by decide +kernel) l_Mo_163 k_Mo_questions v_Mo_questions a_Mo_questions (by decide) (Nat.le_of_ble_eq_true rfl) rfl ov hq (fun r kd1 m3 hr => ?_)
  obtain ⟨x2, rfl, hk, hr⟩ := hr
  subst kd1
  have h := h x2 m3 hr
  show Ev (d + 1) M_Mo_mix 0 0 55 [(2, v0), zJ, zJ, (0, v3), (0, v4), (0, v5)] [(0, x2), (0, v5)] kd m3 (zqI kd q)
  refine EvX.icmp_ge (off := 41) (tgt := 96) (by decide +kernel) (by decide) (fun hc => ?_) (fun hc => ?_)
  · have h := h.1 hc
    refine EvX.blk (pc' := 99) [(.iinc 4 1, 0, 0)] (by decide +kernel) trivial ?_
    show Ev (d + 1) M_Mo_mix 0 0 99 [(2, v0), zJ, zJ, (0, v3), (0, iw (v4 + 1)), (0, v5)] [] kd m3 (zqI kd q)
    refine EvX.goto (off := (-64)) (tgt := 35) (by decide +kernel) (by decide) ?_
    exact EvX.weak (ls2 := [(2, v0), zJ, zJ, (0, v3), (0, iw (v4 + 1)), zJ]) (zwk_of ⟨Or.inr rfl, Or.inl rfl, Or.inl rfl, Or.inr rfl, Or.inr rfl, Or.inl rfl, trivial⟩) h
  · have h := h.2 hc
    obtain ⟨o1, o2, o3, o4, h⟩ := h
    refine EvX.blk (pc' := 77) [(.aload_n 0, 0, 0), (.iload 4, 0, 0), (.iload 5, 0, 0), (.aload_n 0, 0, 0), (.getfield 33, 8, 12), (.iload 4, 0, 0), (.iaload, 0, 0), (.aload_n 0, 0, 0), (.getfield 36, 8, 13), (.iload 5, 0, 0), (.iaload, 0, 0)] (by decide +kernel) ⟨g_Mo_33, g_Mo_36, trivial⟩ ⟨o1, o2, o3, o4, ?_⟩
    show Ev (d + 1) M_Mo_mix 0 0 77 [(2, v0), zJ, zJ, (0, v3), (0, v4), (0, v5)] [(0, m3 (m3 v0 13) v5), (0, m3 (m3 v0 12) v4), (0, v5), (0, v4), (2, v0)] kd m3 (zqI kd q)
    obtain ⟨ov, h⟩ := h
    obtain ⟨q4, hq, h⟩ := h
    refine EvX.callV (c := 8) (mc := 0) (ms := 0) (as := [(0, v4), (0, v5), (0, m3 (m3 v0 12) v4), (0, m3 (m3 v0 13) v5)]) (st := []) (by decide +kernel) l_Mo_232 k_Mo_boxOf v_Mo_boxOf a_Mo_boxOf (by decide) (Nat.le_of_ble_eq_true rfl) rfl ov hq (fun r kd1 m6 hr => ?_)
    obtain ⟨x5, rfl, hk, hr⟩ := hr
    subst kd1
    have h := h x5 m6 hr
    show Ev (d + 1) M_Mo_mix 0 0 80 [(2, v0), zJ, zJ, (0, v3), (0, v4), (0, v5)] [(0, x5)] kd m6 (zqI kd q)
    refine EvX.blk (pc' := 84) [(.iload_n 3, 0, 0), (.iadd, 0, 0), (.bipush 12, 0, 0)] (by decide +kernel) trivial ?_
    show Ev (d + 1) M_Mo_mix 0 0 84 [(2, v0), zJ, zJ, (0, v3), (0, v4), (0, v5)] [(0, 12), (0, iw (x5 + v3))] kd m6 (zqI kd q)
    refine EvX.icmp_le (off := 6) (tgt := 90) (by decide +kernel) (by decide) (fun hc => ?_) (fun hc => ?_)
    · have h := h.1 hc
      refine EvX.blk (pc' := 93) [(.iinc 5 1, 0, 0)] (by decide +kernel) trivial ?_
      show Ev (d + 1) M_Mo_mix 0 0 93 [(2, v0), zJ, zJ, (0, v3), (0, v4), (0, iw (v5 + 1))] [] kd m6 (zqI kd q)
      refine EvX.goto (off := (-45)) (tgt := 48) (by decide +kernel) (by decide) ?_
      exact h
    · have h := h.2 hc
      refine EvX.blk (pc' := 89) [(.bipush (-2), 0, 0)] (by decide +kernel) trivial ?_
      show Ev (d + 1) M_Mo_mix 0 0 89 [(2, v0), zJ, zJ, (0, v3), (0, v4), (0, v5)] [(0, (-2))] kd m6 (zqI kd q)
      exact EvX.ret (r := (0, (-2))) (by decide +kernel) rfl ⟨_, rfl, rfl, h⟩
set_option maxRecDepth 20000 in
set_option maxHeartbeats 1000000 in
theorem T_Mo_mix_109 {d : Nat} {kd : ZK} {m : ZM} {q : Int → ZM → Prop} {v0 v3 v4 : Int} (h : (zobj kd v0 8 ∧ ∃ q1, CtI d M_Mo_questions [(2, v0), (0, 0)] kd m q1 ∧ ∀ x2 m3, q1 x2 m3 → ((x2 ≤ v4 → q 1 m3) ∧ (¬ x2 ≤ v4 → (Ev (d + 1) M_Mo_mix 0 0 122 [(2, v0), zJ, zJ, (0, v3), (0, v4), (0, 0)] [] kd m3 (zqI kd q)))))) : Ev (d + 1) M_Mo_mix 0 0 109 [(2, v0), zJ, zJ, (0, v3), (0, v4), zJ] [] kd m (zqI kd q) := by
  refine EvX.blk (pc' := 113) [(.iload 4, 0, 0), (.aload_n 0, 0, 0), (.iconst 0, 0, 0)] (by decide +kernel) trivial ?_
  show Ev (d + 1) M_Mo_mix 0 0 113 [(2, v0), zJ, zJ, (0, v3), (0, v4), zJ] [(0, 0), (2, v0), (0, v4)] kd m (zqI kd q)
  obtain ⟨ov, h⟩ := h
  obtain ⟨q1, hq, h⟩ := h
  refine EvX.callV (c := 8) (mc := 0) (ms := 0) (as := [(0, 0)]) (st := [(0, v4)]) (by decide +kernel) l_Mo_163 k_Mo_questions v_Mo_questions a_Mo_questions (by decide) (Nat.le_of_ble_eq_true rfl) rfl ov hq (fun r kd1 m3 hr => ?_)
  obtain ⟨x2, rfl, hk, hr⟩ := hr
  subst kd1
  have h := h x2 m3 hr
  show Ev (d + 1) M_Mo_mix 0 0 116 [(2, v0), zJ, zJ, (0, v3), (0, v4), zJ] [(0, x2), (0, v4)] kd m3 (zqI kd q)
  refine EvX.icmp_ge (off := 62) (tgt := 178) (by decide +kernel) (by decide) (fun hc => ?_) (fun hc => ?_)
  · have h := h.1 hc
    refine EvX.blk (pc' := 179) [(.iconst 1, 0, 0)] (by decide +kernel) trivial ?_
    show Ev (d + 1) M_Mo_mix 0 0 179 [(2, v0), zJ, zJ, (0, v3), (0, v4), zJ] [(0, 1)] kd m3 (zqI kd q)
    exact EvX.ret (r := (0, 1)) (by decide +kernel) rfl ⟨_, rfl, rfl, h⟩
  · have h := h.2 hc
    refine EvX.blk (pc' := 122) [(.iconst 0, 0, 0), (.istore 5, 0, 0)] (by decide +kernel) trivial ?_
    show Ev (d + 1) M_Mo_mix 0 0 122 [(2, v0), zJ, zJ, (0, v3), (0, v4), (0, 0)] [] kd m3 (zqI kd q)
    exact h
set_option maxRecDepth 20000 in
set_option maxHeartbeats 1000000 in
theorem T_Mo_mix_122 {d : Nat} {kd : ZK} {m : ZM} {q : Int → ZM → Prop} {v0 v3 v4 v5 : Int} (h : (zobj kd v0 8 ∧ ∃ q1, CtI d M_Mo_questions [(2, v0), (0, 1)] kd m q1 ∧ ∀ x2 m3, q1 x2 m3 → ((x2 ≤ v5 → (Ev (d + 1) M_Mo_mix 0 0 109 [(2, v0), zJ, zJ, (0, v3), (0, iw (v4 + 1)), zJ] [] kd m3 (zqI kd q))) ∧ (¬ x2 ≤ v5 → (zobj kd v0 8 ∧ zobj kd v0 8 ∧ zIn kd (m3 v0 12) 0 v4 ∧ zobj kd v0 8 ∧ zIn kd (m3 v0 13) 0 v5 ∧ (∃ q4, CtI d M_Mo_fourOf [(0, v4), (0, v5), (0, m3 (m3 v0 12) v4), (0, m3 (m3 v0 13) v5)] kd m3 q4 ∧ ∀ x5 m6, q4 x5 m6 → (zIn kd (m3 v0 0) 0 (iw (429 + x5)) ∧ zIn kd (m3 v0 0) 0 (iw (429 + x5)) ∧ (Ev (d + 1) M_Mo_mix 0 0 122 [(2, v0), zJ, zJ, (0, v3), (0, v4), (0, iw (v5 + 1))] [] kd (zup m6 (m3 v0 0) (iw (429 + x5)) (iw ((m6 (m3 v0 0) (iw (429 + x5))) + v3))) (zqI kd q))))))))) : Ev (d + 1) M_Mo_mix 0 0 122 [(2, v0), zJ, zJ, (0, v3), (0, v4), (0, v5)] [] kd m (zqI kd q) := by
  refine EvX.blk (pc' := 126) [(.iload 5, 0, 0), (.aload_n 0, 0, 0), (.iconst 1, 0, 0)] (by decide +kernel) trivial ?_
  show Ev (d + 1) M_Mo_mix 0 0 126 [(2, v0), zJ, zJ, (0, v3), (0, v4), (0, v5)] [(0, 1), (2, v0), (0, v5)] kd m (zqI kd q)
  obtain ⟨ov, h⟩ := h
  obtain ⟨q1, hq, h⟩ := h
  refine EvX.callV (c := 8) (mc := 0) (ms := 0) (as := [(0, 1)]) (st := [(0, v5)]) (by decide +kernel) l_Mo_163 k_Mo_questions v_Mo_questions a_Mo_questions (by decide) (Nat.le_of_ble_eq_true rfl) rfl ov hq (fun r kd1 m3 hr => ?_)
  obtain ⟨x2, rfl, hk, hr⟩ := hr
  subst kd1
  have h := h x2 m3 hr
  show Ev (d + 1) M_Mo_mix 0 0 129 [(2, v0), zJ, zJ, (0, v3), (0, v4), (0, v5)] [(0, x2), (0, v5)] kd m3 (zqI kd q)
  refine EvX.icmp_ge (off := 43) (tgt := 172) (by decide +kernel) (by decide) (fun hc => ?_) (fun hc => ?_)
  · have h := h.1 hc
    refine EvX.blk (pc' := 175) [(.iinc 4 1, 0, 0)] (by decide +kernel) trivial ?_
    show Ev (d + 1) M_Mo_mix 0 0 175 [(2, v0), zJ, zJ, (0, v3), (0, iw (v4 + 1)), (0, v5)] [] kd m3 (zqI kd q)
    refine EvX.goto (off := (-66)) (tgt := 109) (by decide +kernel) (by decide) ?_
    exact EvX.weak (ls2 := [(2, v0), zJ, zJ, (0, v3), (0, iw (v4 + 1)), zJ]) (zwk_of ⟨Or.inr rfl, Or.inl rfl, Or.inl rfl, Or.inr rfl, Or.inr rfl, Or.inl rfl, trivial⟩) h
  · have h := h.2 hc
    obtain ⟨o1, o2, o3, o4, o5, h⟩ := h
    refine EvX.blk (pc' := 157) [(.aload_n 0, 0, 0), (.getfield 9, 8, 0), (.sipush 429, 0, 0), (.iload 4, 0, 0), (.iload 5, 0, 0), (.aload_n 0, 0, 0), (.getfield 33, 8, 12), (.iload 4, 0, 0), (.iaload, 0, 0), (.aload_n 0, 0, 0), (.getfield 36, 8, 13), (.iload 5, 0, 0), (.iaload, 0, 0)] (by decide +kernel) ⟨g_Mo_9, g_Mo_33, g_Mo_36, trivial⟩ ⟨o1, o2, o3, o4, o5, ?_⟩
    show Ev (d + 1) M_Mo_mix 0 0 157 [(2, v0), zJ, zJ, (0, v3), (0, v4), (0, v5)] [(0, m3 (m3 v0 13) v5), (0, m3 (m3 v0 12) v4), (0, v5), (0, v4), (0, 429), (2, m3 v0 0)] kd m3 (zqI kd q)
    obtain ⟨q4, hq, h⟩ := h
    refine EvX.callS (mc := 0) (ms := 0) (as := [(0, v4), (0, v5), (0, m3 (m3 v0 12) v4), (0, m3 (m3 v0 13) v5)]) (st := [(0, 429), (2, m3 v0 0)]) (by decide +kernel) l_Mo_122 k_Mo_fourOf s_Mo_fourOf a_Mo_fourOf (by decide) (Nat.le_of_ble_eq_true rfl) hq (fun r kd1 m6 hr => ?_)
    obtain ⟨x5, rfl, hk, hr⟩ := hr
    subst kd1
    have h := h x5 m6 hr
    show Ev (d + 1) M_Mo_mix 0 0 160 [(2, v0), zJ, zJ, (0, v3), (0, v4), (0, v5)] [(0, x5), (0, 429), (2, m3 v0 0)] kd m6 (zqI kd q)
    obtain ⟨o1, o2, h⟩ := h
    refine EvX.blk (pc' := 169) [(.iadd, 0, 0), (.dup2, 0, 0), (.iaload, 0, 0), (.iload_n 3, 0, 0), (.iadd, 0, 0), (.iastore, 0, 0), (.iinc 5 1, 0, 0)] (by decide +kernel) trivial ⟨o1, o2, ?_⟩
    show Ev (d + 1) M_Mo_mix 0 0 169 [(2, v0), zJ, zJ, (0, v3), (0, v4), (0, iw (v5 + 1))] [] kd (zup m6 (m3 v0 0) (iw (429 + x5)) (iw ((m6 (m3 v0 0) (iw (429 + x5))) + v3))) (zqI kd q)
    refine EvX.goto (off := (-47)) (tgt := 122) (by decide +kernel) (by decide) ?_
    exact h
set_option maxRecDepth 20000 in
set_option maxHeartbeats 1000000 in
theorem T_Mo_draws_0 {d : Nat} {kd : ZK} {m : ZM} {q : Int → ZM → Prop} {v0 v1 : Int} (h : (zobj kd v0 8 ∧ zobj kd v0 8 ∧ zobj kd v0 8 ∧ v1 ≠ 0 ∧ q (Int.tmod (zushr ((zup m v0 14 (iw ((iw ((m v0 14) * 1103515245)) + 12345))) v0 14) 16) v1) (zup m v0 14 (iw ((iw ((m v0 14) * 1103515245)) + 12345))))) : Ev (d + 1) M_Mo_draws 0 0 0 [(2, v0), (0, v1)] [] kd m (zqI kd q) := by
  obtain ⟨o1, o2, o3, o4, h⟩ := h
  refine EvX.blk (pc' := 24) [(.aload_n 0, 0, 0), (.aload_n 0, 0, 0), (.getfield 235, 8, 14), (.ldc 238, 0, 1103515245), (.imul, 0, 0), (.sipush 12345, 0, 0), (.iadd, 0, 0), (.putfield 235, 8, 14), (.aload_n 0, 0, 0), (.getfield 235, 8, 14), (.bipush 16, 0, 0), (.iushr, 0, 0), (.iload_n 1, 0, 0), (.irem, 0, 0)] (by decide +kernel) ⟨g_Mo_235, z_Mo_238, ⟨g_Mo_235, p_Mo_235⟩, g_Mo_235, trivial⟩ ⟨o1, rfl, o2, o3, o4, ?_⟩
  show Ev (d + 1) M_Mo_draws 0 0 24 [(2, v0), (0, v1)] [(0, Int.tmod (zushr ((zup m v0 14 (iw ((iw ((m v0 14) * 1103515245)) + 12345))) v0 14) 16) v1)] kd (zup m v0 14 (iw ((iw ((m v0 14) * 1103515245)) + 12345))) (zqI kd q)
  exact EvX.ret (r := (0, Int.tmod (zushr ((zup m v0 14 (iw ((iw ((m v0 14) * 1103515245)) + 12345))) v0 14) 16) v1)) (by decide +kernel) rfl ⟨_, rfl, rfl, h⟩
theorem S_Mo_draws {d : Nat} {kd : ZK} {m : ZM} {q : Int → ZM → Prop} {v0 v1 : Int} (h : (zobj kd v0 8 ∧ zobj kd v0 8 ∧ zobj kd v0 8 ∧ v1 ≠ 0 ∧ q (Int.tmod (zushr ((zup m v0 14 (iw ((iw ((m v0 14) * 1103515245)) + 12345))) v0 14) 16) v1) (zup m v0 14 (iw ((iw ((m v0 14) * 1103515245)) + 12345))))) : CtI (d + 1) M_Mo_draws [(2, v0), (0, v1)] kd m q :=
  Ct.start k_Mo_draws (Nat.le_of_ble_eq_true rfl) ⟨1, Or.inr (Or.inl ⟨rfl, rfl⟩)⟩ (T_Mo_draws_0 h)
set_option maxRecDepth 20000 in
set_option maxHeartbeats 1000000 in
theorem T_Mo_winsMany_0 {d : Nat} {kd : ZK} {m : ZM} {q : Int → ZM → Prop} {v0 : Int} (h : (Ev (d + 1) M_Mo_winsMany 0 0 5 [(2, v0), (0, 0), (0, 29)] [] kd m (zqI kd q))) : Ev (d + 1) M_Mo_winsMany 0 0 0 [(2, v0), zJ, zJ] [] kd m (zqI kd q) := by
  refine EvX.blk (pc' := 5) [(.iconst 0, 0, 0), (.istore_n 1, 0, 0), (.bipush 29, 0, 0), (.istore_n 2, 0, 0)] (by decide +kernel) trivial ?_
  show Ev (d + 1) M_Mo_winsMany 0 0 5 [(2, v0), (0, 0), (0, 29)] [] kd m (zqI kd q)
  exact h
theorem S_Mo_winsMany {d : Nat} {kd : ZK} {m : ZM} {q : Int → ZM → Prop} {v0 : Int} (h : (Ev (d + 1) M_Mo_winsMany 0 0 5 [(2, v0), (0, 0), (0, 29)] [] kd m (zqI kd q))) : CtI (d + 1) M_Mo_winsMany [(2, v0)] kd m q :=
  Ct.start k_Mo_winsMany (Nat.le_of_ble_eq_true rfl) ⟨1, Or.inr (Or.inl ⟨rfl, rfl⟩)⟩ (T_Mo_winsMany_0 h)
set_option maxRecDepth 20000 in
set_option maxHeartbeats 1000000 in
theorem T_Mo_winsMany_5 {d : Nat} {kd : ZK} {m : ZM} {q : Int → ZM → Prop} {v0 v1 v2 : Int} (h : ((429 ≤ v2 → q v1 m) ∧ (¬ 429 ≤ v2 → (zobj kd v0 8 ∧ zIn kd (m v0 0) 0 v2 ∧ (Ev (d + 1) M_Mo_winsMany 0 0 5 [(2, v0), (0, iw (v1 + (m (m v0 0) v2))), (0, iw (v2 + 1))] [] kd m (zqI kd q)))))) : Ev (d + 1) M_Mo_winsMany 0 0 5 [(2, v0), (0, v1), (0, v2)] [] kd m (zqI kd q) := by
  refine EvX.blk (pc' := 9) [(.iload_n 2, 0, 0), (.sipush 429, 0, 0)] (by decide +kernel) trivial ?_
  show Ev (d + 1) M_Mo_winsMany 0 0 9 [(2, v0), (0, v1), (0, v2)] [(0, 429), (0, v2)] kd m (zqI kd q)
  refine EvX.icmp_ge (off := 18) (tgt := 27) (by decide +kernel) (by decide) (fun hc => ?_) (fun hc => ?_)
  · have h := h.1 hc
    refine EvX.blk (pc' := 28) [(.iload_n 1, 0, 0)] (by decide +kernel) trivial ?_
    show Ev (d + 1) M_Mo_winsMany 0 0 28 [(2, v0), (0, v1), (0, v2)] [(0, v1)] kd m (zqI kd q)
    exact EvX.ret (r := (0, v1)) (by decide +kernel) rfl ⟨_, rfl, rfl, h⟩
  · have h := h.2 hc
    obtain ⟨o1, o2, h⟩ := h
    refine EvX.blk (pc' := 24) [(.iload_n 1, 0, 0), (.aload_n 0, 0, 0), (.getfield 9, 8, 0), (.iload_n 2, 0, 0), (.iaload, 0, 0), (.iadd, 0, 0), (.istore_n 1, 0, 0), (.iinc 2 1, 0, 0)] (by decide +kernel) ⟨g_Mo_9, trivial⟩ ⟨o1, o2, ?_⟩
    show Ev (d + 1) M_Mo_winsMany 0 0 24 [(2, v0), (0, iw (v1 + (m (m v0 0) v2))), (0, iw (v2 + 1))] [] kd m (zqI kd q)
    refine EvX.goto (off := (-19)) (tgt := 5) (by decide +kernel) (by decide) ?_
    exact h
set_option maxRecDepth 20000 in
set_option maxHeartbeats 1000000 in
theorem T_Mo_draw_0 {d : Nat} {kd : ZK} {m : ZM} {q : Int → ZM → Prop} {v0 v1 : Int} (h : (zobj kd v0 8 ∧ ∃ q1, CtI d M_Mo_hasGame [(2, v0)] kd m q1 ∧ ∀ x2 m3, q1 x2 m3 → ((x2 ≠ 0 → (zobj kd v0 8 ∧ ∃ q4, CtV d M_Mo_keepsPast [(2, v0)] kd m3 q4 ∧ ∀ m6, q4 m6 → (zobj kd v0 8 ∧ (Ev (d + 1) M_Mo_draw 0 0 20 [(2, v0), zJ, (0, 0), zJ, zJ, zJ] [] kd (zup m6 v0 14 v1) (zqI kd q))))) ∧ (¬ x2 ≠ 0 → q (-1) m3)))) : Ev (d + 1) M_Mo_draw 0 0 0 [(2, v0), (0, v1), zJ, zJ, zJ, zJ] [] kd m (zqI kd q) := by
  refine EvX.blk (pc' := 1) [(.aload_n 0, 0, 0)] (by decide +kernel) trivial ?_
  show Ev (d + 1) M_Mo_draw 0 0 1 [(2, v0), (0, v1), zJ, zJ, zJ, zJ] [(2, v0)] kd m (zqI kd q)
  obtain ⟨ov, h⟩ := h
  obtain ⟨q1, hq, h⟩ := h
  refine EvX.callV (c := 8) (mc := 0) (ms := 0) (as := []) (st := []) (by decide +kernel) l_Mo_215 k_Mo_hasGame v_Mo_hasGame a_Mo_hasGame (by decide) (Nat.le_of_ble_eq_true rfl) rfl ov hq (fun r kd1 m3 hr => ?_)
  obtain ⟨x2, rfl, hk, hr⟩ := hr
  subst kd1
  have h := h x2 m3 hr
  show Ev (d + 1) M_Mo_draw 0 0 4 [(2, v0), (0, v1), zJ, zJ, zJ, zJ] [(0, x2)] kd m3 (zqI kd q)
  refine EvX.if_ne (off := 5) (tgt := 9) (by decide +kernel) (by decide) (fun hc => ?_) (fun hc => ?_)
  · have h := h.1 hc
    refine EvX.blk (pc' := 10) [(.aload_n 0, 0, 0)] (by decide +kernel) trivial ?_
    show Ev (d + 1) M_Mo_draw 0 0 10 [(2, v0), (0, v1), zJ, zJ, zJ, zJ] [(2, v0)] kd m3 (zqI kd q)
    obtain ⟨ov, h⟩ := h
    obtain ⟨q4, hq, h⟩ := h
    refine EvX.callV (c := 8) (mc := 0) (ms := 0) (as := []) (st := []) (by decide +kernel) l_Mo_183 k_Mo_keepsPast v_Mo_keepsPast a_Mo_keepsPast (by decide) (Nat.le_of_ble_eq_true rfl) rfl ov hq (fun r kd1 m6 hr => ?_)
    obtain ⟨rfl, hk, hr⟩ := hr
    subst kd1
    have h := h m6 hr
    show Ev (d + 1) M_Mo_draw 0 0 13 [(2, v0), (0, v1), zJ, zJ, zJ, zJ] [] kd m6 (zqI kd q)
    obtain ⟨o1, h⟩ := h
    refine EvX.blk (pc' := 20) [(.aload_n 0, 0, 0), (.iload_n 1, 0, 0), (.putfield 235, 8, 14), (.iconst 0, 0, 0), (.istore_n 2, 0, 0)] (by decide +kernel) ⟨⟨g_Mo_235, p_Mo_235⟩, trivial⟩ ⟨rfl, o1, ?_⟩
    show Ev (d + 1) M_Mo_draw 0 0 20 [(2, v0), (0, v1), (0, 0), zJ, zJ, zJ] [] kd (zup m6 v0 14 v1) (zqI kd q)
    exact EvX.weak (ls2 := [(2, v0), zJ, (0, 0), zJ, zJ, zJ]) (zwk_of ⟨Or.inr rfl, Or.inl rfl, Or.inr rfl, Or.inl rfl, Or.inl rfl, Or.inl rfl, trivial⟩) h
  · have h := h.2 hc
    refine EvX.blk (pc' := 8) [(.iconst (-1), 0, 0)] (by decide +kernel) trivial ?_
    show Ev (d + 1) M_Mo_draw 0 0 8 [(2, v0), (0, v1), zJ, zJ, zJ, zJ] [(0, (-1))] kd m3 (zqI kd q)
    exact EvX.ret (r := (0, (-1))) (by decide +kernel) rfl ⟨_, rfl, rfl, h⟩
theorem S_Mo_draw {d : Nat} {kd : ZK} {m : ZM} {q : Int → ZM → Prop} {v0 v1 : Int} (h : (zobj kd v0 8 ∧ ∃ q1, CtI d M_Mo_hasGame [(2, v0)] kd m q1 ∧ ∀ x2 m3, q1 x2 m3 → ((x2 ≠ 0 → (zobj kd v0 8 ∧ ∃ q4, CtV d M_Mo_keepsPast [(2, v0)] kd m3 q4 ∧ ∀ m6, q4 m6 → (zobj kd v0 8 ∧ (Ev (d + 1) M_Mo_draw 0 0 20 [(2, v0), zJ, (0, 0), zJ, zJ, zJ] [] kd (zup m6 v0 14 v1) (zqI kd q))))) ∧ (¬ x2 ≠ 0 → q (-1) m3)))) : CtI (d + 1) M_Mo_draw [(2, v0), (0, v1)] kd m q :=
  Ct.start k_Mo_draw (Nat.le_of_ble_eq_true rfl) ⟨1, Or.inr (Or.inl ⟨rfl, rfl⟩)⟩ (T_Mo_draw_0 h)
set_option maxRecDepth 20000 in
set_option maxHeartbeats 1000000 in
theorem T_Mo_draw_20 {d : Nat} {kd : ZK} {m : ZM} {q : Int → ZM → Prop} {v0 v2 : Int} (h : (zobj kd v0 8 ∧ ∃ q1, CtI d M_Mo_questions [(2, v0), (0, 0)] kd m q1 ∧ ∀ x2 m3, q1 x2 m3 → ((x2 ≤ v2 → (zobj kd v0 8 ∧ ∃ q4, CtI d M_Mo_winsMany [(2, v0)] kd m3 q4 ∧ ∀ x5 m6, q4 x5 m6 → q x5 m6)) ∧ (¬ x2 ≤ v2 → (Ev (d + 1) M_Mo_draw 0 0 31 [(2, v0), zJ, (0, v2), (0, 0), zJ, zJ] [] kd m3 (zqI kd q)))))) : Ev (d + 1) M_Mo_draw 0 0 20 [(2, v0), zJ, (0, v2), zJ, zJ, zJ] [] kd m (zqI kd q) := by
  refine EvX.blk (pc' := 23) [(.iload_n 2, 0, 0), (.aload_n 0, 0, 0), (.iconst 0, 0, 0)] (by decide +kernel) trivial ?_
  show Ev (d + 1) M_Mo_draw 0 0 23 [(2, v0), zJ, (0, v2), zJ, zJ, zJ] [(0, 0), (2, v0), (0, v2)] kd m (zqI kd q)
  obtain ⟨ov, h⟩ := h
  obtain ⟨q1, hq, h⟩ := h
  refine EvX.callV (c := 8) (mc := 0) (ms := 0) (as := [(0, 0)]) (st := [(0, v2)]) (by decide +kernel) l_Mo_163 k_Mo_questions v_Mo_questions a_Mo_questions (by decide) (Nat.le_of_ble_eq_true rfl) rfl ov hq (fun r kd1 m3 hr => ?_)
  obtain ⟨x2, rfl, hk, hr⟩ := hr
  subst kd1
  have h := h x2 m3 hr
  show Ev (d + 1) M_Mo_draw 0 0 26 [(2, v0), zJ, (0, v2), zJ, zJ, zJ] [(0, x2), (0, v2)] kd m3 (zqI kd q)
  refine EvX.icmp_ge (off := 105) (tgt := 131) (by decide +kernel) (by decide) (fun hc => ?_) (fun hc => ?_)
  · have h := h.1 hc
    refine EvX.blk (pc' := 132) [(.aload_n 0, 0, 0)] (by decide +kernel) trivial ?_
    show Ev (d + 1) M_Mo_draw 0 0 132 [(2, v0), zJ, (0, v2), zJ, zJ, zJ] [(2, v0)] kd m3 (zqI kd q)
    obtain ⟨ov, h⟩ := h
    obtain ⟨q4, hq, h⟩ := h
    refine EvX.callV (c := 8) (mc := 0) (ms := 0) (as := []) (st := []) (by decide +kernel) l_Mo_242 k_Mo_winsMany v_Mo_winsMany a_Mo_winsMany (by decide) (Nat.le_of_ble_eq_true rfl) rfl ov hq (fun r kd1 m6 hr => ?_)
    obtain ⟨x5, rfl, hk, hr⟩ := hr
    subst kd1
    have h := h x5 m6 hr
    show Ev (d + 1) M_Mo_draw 0 0 135 [(2, v0), zJ, (0, v2), zJ, zJ, zJ] [(0, x5)] kd m6 (zqI kd q)
    exact EvX.ret (r := (0, x5)) (by decide +kernel) rfl ⟨_, rfl, rfl, h⟩
  · have h := h.2 hc
    refine EvX.blk (pc' := 31) [(.iconst 0, 0, 0), (.istore_n 3, 0, 0)] (by decide +kernel) trivial ?_
    show Ev (d + 1) M_Mo_draw 0 0 31 [(2, v0), zJ, (0, v2), (0, 0), zJ, zJ] [] kd m3 (zqI kd q)
    exact h
set_option maxRecDepth 20000 in
set_option maxHeartbeats 1000000 in
theorem T_Mo_draw_31 {d : Nat} {kd : ZK} {m : ZM} {q : Int → ZM → Prop} {v0 v2 v3 : Int} (h : (zobj kd v0 8 ∧ ∃ q1, CtI d M_Mo_questions [(2, v0), (0, 1)] kd m q1 ∧ ∀ x2 m3, q1 x2 m3 → ((x2 ≤ v3 → (Ev (d + 1) M_Mo_draw 0 0 20 [(2, v0), zJ, (0, iw (v2 + 1)), zJ, zJ, zJ] [] kd m3 (zqI kd q))) ∧ (¬ x2 ≤ v3 → (zobj kd v0 8 ∧ (∃ q4, CtI d M_Mo_twoOf [(0, v2), (0, v3)] kd m3 q4 ∧ ∀ x5 m6, q4 x5 m6 → (zobj kd v0 8 ∧ ∃ q7, CtI d M_Mo_draws [(2, v0), (0, 4)] kd m6 q7 ∧ ∀ x8 m9, q7 x8 m9 → (zIn kd (m3 v0 0) 0 (iw (4 + x5)) ∧ (Ev (d + 1) M_Mo_draw 0 0 62 [(2, v0), zJ, (0, v2), (0, v3), (0, 0), zJ] [] kd (zup m9 (m3 v0 0) (iw (4 + x5)) (iw (x8 + 1))) (zqI kd q)))))))))) : Ev (d + 1) M_Mo_draw 0 0 31 [(2, v0), zJ, (0, v2), (0, v3), zJ, zJ] [] kd m (zqI kd q) := by
  refine EvX.blk (pc' := 34) [(.iload_n 3, 0, 0), (.aload_n 0, 0, 0), (.iconst 1, 0, 0)] (by decide +kernel) trivial ?_
  show Ev (d + 1) M_Mo_draw 0 0 34 [(2, v0), zJ, (0, v2), (0, v3), zJ, zJ] [(0, 1), (2, v0), (0, v3)] kd m (zqI kd q)
  obtain ⟨ov, h⟩ := h
  obtain ⟨q1, hq, h⟩ := h
  refine EvX.callV (c := 8) (mc := 0) (ms := 0) (as := [(0, 1)]) (st := [(0, v3)]) (by decide +kernel) l_Mo_163 k_Mo_questions v_Mo_questions a_Mo_questions (by decide) (Nat.le_of_ble_eq_true rfl) rfl ov hq (fun r kd1 m3 hr => ?_)
  obtain ⟨x2, rfl, hk, hr⟩ := hr
  subst kd1
  have h := h x2 m3 hr
  show Ev (d + 1) M_Mo_draw 0 0 37 [(2, v0), zJ, (0, v2), (0, v3), zJ, zJ] [(0, x2), (0, v3)] kd m3 (zqI kd q)
  refine EvX.icmp_ge (off := 88) (tgt := 125) (by decide +kernel) (by decide) (fun hc => ?_) (fun hc => ?_)
  · have h := h.1 hc
    refine EvX.blk (pc' := 128) [(.iinc 2 1, 0, 0)] (by decide +kernel) trivial ?_
    show Ev (d + 1) M_Mo_draw 0 0 128 [(2, v0), zJ, (0, iw (v2 + 1)), (0, v3), zJ, zJ] [] kd m3 (zqI kd q)
    refine EvX.goto (off := (-108)) (tgt := 20) (by decide +kernel) (by decide) ?_
    exact EvX.weak (ls2 := [(2, v0), zJ, (0, iw (v2 + 1)), zJ, zJ, zJ]) (zwk_of ⟨Or.inr rfl, Or.inl rfl, Or.inr rfl, Or.inl rfl, Or.inl rfl, Or.inl rfl, trivial⟩) h
  · have h := h.2 hc
    obtain ⟨o1, h⟩ := h
    refine EvX.blk (pc' := 47) [(.aload_n 0, 0, 0), (.getfield 9, 8, 0), (.iconst 4, 0, 0), (.iload_n 2, 0, 0), (.iload_n 3, 0, 0)] (by decide +kernel) ⟨g_Mo_9, trivial⟩ ⟨o1, ?_⟩
    show Ev (d + 1) M_Mo_draw 0 0 47 [(2, v0), zJ, (0, v2), (0, v3), zJ, zJ] [(0, v3), (0, v2), (0, 4), (2, m3 v0 0)] kd m3 (zqI kd q)
    obtain ⟨q4, hq, h⟩ := h
    refine EvX.callS (mc := 0) (ms := 0) (as := [(0, v2), (0, v3)]) (st := [(0, 4), (2, m3 v0 0)]) (by decide +kernel) l_Mo_60 k_Mo_twoOf s_Mo_twoOf a_Mo_twoOf (by decide) (Nat.le_of_ble_eq_true rfl) hq (fun r kd1 m6 hr => ?_)
    obtain ⟨x5, rfl, hk, hr⟩ := hr
    subst kd1
    have h := h x5 m6 hr
    show Ev (d + 1) M_Mo_draw 0 0 50 [(2, v0), zJ, (0, v2), (0, v3), zJ, zJ] [(0, x5), (0, 4), (2, m3 v0 0)] kd m6 (zqI kd q)
    refine EvX.blk (pc' := 53) [(.iadd, 0, 0), (.aload_n 0, 0, 0), (.iconst 4, 0, 0)] (by decide +kernel) trivial ?_
    show Ev (d + 1) M_Mo_draw 0 0 53 [(2, v0), zJ, (0, v2), (0, v3), zJ, zJ] [(0, 4), (2, v0), (0, iw (4 + x5)), (2, m3 v0 0)] kd m6 (zqI kd q)
    obtain ⟨ov, h⟩ := h
    obtain ⟨q7, hq, h⟩ := h
    refine EvX.callV (c := 8) (mc := 0) (ms := 0) (as := [(0, 4)]) (st := [(0, iw (4 + x5)), (2, m3 v0 0)]) (by decide +kernel) l_Mo_239 k_Mo_draws v_Mo_draws a_Mo_draws (by decide) (Nat.le_of_ble_eq_true rfl) rfl ov hq (fun r kd1 m9 hr => ?_)
    obtain ⟨x8, rfl, hk, hr⟩ := hr
    subst kd1
    have h := h x8 m9 hr
    show Ev (d + 1) M_Mo_draw 0 0 56 [(2, v0), zJ, (0, v2), (0, v3), zJ, zJ] [(0, x8), (0, iw (4 + x5)), (2, m3 v0 0)] kd m9 (zqI kd q)
    obtain ⟨o1, h⟩ := h
    refine EvX.blk (pc' := 62) [(.iconst 1, 0, 0), (.iadd, 0, 0), (.iastore, 0, 0), (.iconst 0, 0, 0), (.istore 4, 0, 0)] (by decide +kernel) trivial ⟨o1, ?_⟩
    show Ev (d + 1) M_Mo_draw 0 0 62 [(2, v0), zJ, (0, v2), (0, v3), (0, 0), zJ] [] kd (zup m9 (m3 v0 0) (iw (4 + x5)) (iw (x8 + 1))) (zqI kd q)
    exact h
set_option maxRecDepth 20000 in
set_option maxHeartbeats 1000000 in
theorem T_Mo_draw_62 {d : Nat} {kd : ZK} {m : ZM} {q : Int → ZM → Prop} {v0 v2 v3 v4 : Int} (h : (zobj kd v0 8 ∧ ∃ q1, CtI d M_Mo_answers [(2, v0), (0, 0)] kd m q1 ∧ ∀ x2 m3, q1 x2 m3 → ((x2 ≤ v4 → (Ev (d + 1) M_Mo_draw 0 0 31 [(2, v0), zJ, (0, v2), (0, iw (v3 + 1)), zJ, zJ] [] kd m3 (zqI kd q))) ∧ (¬ x2 ≤ v4 → (Ev (d + 1) M_Mo_draw 0 0 75 [(2, v0), zJ, (0, v2), (0, v3), (0, v4), (0, 0)] [] kd m3 (zqI kd q)))))) : Ev (d + 1) M_Mo_draw 0 0 62 [(2, v0), zJ, (0, v2), (0, v3), (0, v4), zJ] [] kd m (zqI kd q) := by
  refine EvX.blk (pc' := 66) [(.iload 4, 0, 0), (.aload_n 0, 0, 0), (.iconst 0, 0, 0)] (by decide +kernel) trivial ?_
  show Ev (d + 1) M_Mo_draw 0 0 66 [(2, v0), zJ, (0, v2), (0, v3), (0, v4), zJ] [(0, 0), (2, v0), (0, v4)] kd m (zqI kd q)
  obtain ⟨ov, h⟩ := h
  obtain ⟨q1, hq, h⟩ := h
  refine EvX.callV (c := 8) (mc := 0) (ms := 0) (as := [(0, 0)]) (st := [(0, v4)]) (by decide +kernel) l_Mo_167 k_Mo_answers v_Mo_answers a_Mo_answers (by decide) (Nat.le_of_ble_eq_true rfl) rfl ov hq (fun r kd1 m3 hr => ?_)
  obtain ⟨x2, rfl, hk, hr⟩ := hr
  subst kd1
  have h := h x2 m3 hr
  show Ev (d + 1) M_Mo_draw 0 0 69 [(2, v0), zJ, (0, v2), (0, v3), (0, v4), zJ] [(0, x2), (0, v4)] kd m3 (zqI kd q)
  refine EvX.icmp_ge (off := 50) (tgt := 119) (by decide +kernel) (by decide) (fun hc => ?_) (fun hc => ?_)
  · have h := h.1 hc
    refine EvX.blk (pc' := 122) [(.iinc 3 1, 0, 0)] (by decide +kernel) trivial ?_
    show Ev (d + 1) M_Mo_draw 0 0 122 [(2, v0), zJ, (0, v2), (0, iw (v3 + 1)), (0, v4), zJ] [] kd m3 (zqI kd q)
    refine EvX.goto (off := (-91)) (tgt := 31) (by decide +kernel) (by decide) ?_
    exact EvX.weak (ls2 := [(2, v0), zJ, (0, v2), (0, iw (v3 + 1)), zJ, zJ]) (zwk_of ⟨Or.inr rfl, Or.inl rfl, Or.inr rfl, Or.inr rfl, Or.inl rfl, Or.inl rfl, trivial⟩) h
  · have h := h.2 hc
    refine EvX.blk (pc' := 75) [(.iconst 0, 0, 0), (.istore 5, 0, 0)] (by decide +kernel) trivial ?_
    show Ev (d + 1) M_Mo_draw 0 0 75 [(2, v0), zJ, (0, v2), (0, v3), (0, v4), (0, 0)] [] kd m3 (zqI kd q)
    exact h
set_option maxRecDepth 20000 in
set_option maxHeartbeats 1000000 in
theorem T_Mo_draw_75 {d : Nat} {kd : ZK} {m : ZM} {q : Int → ZM → Prop} {v0 v2 v3 v4 v5 : Int} (h : (zobj kd v0 8 ∧ ∃ q1, CtI d M_Mo_answers [(2, v0), (0, 1)] kd m q1 ∧ ∀ x2 m3, q1 x2 m3 → ((x2 ≤ v5 → (Ev (d + 1) M_Mo_draw 0 0 62 [(2, v0), zJ, (0, v2), (0, v3), (0, iw (v4 + 1)), zJ] [] kd m3 (zqI kd q))) ∧ (¬ x2 ≤ v5 → (zobj kd v0 8 ∧ (∃ q4, CtI d M_Mo_fourOf [(0, v2), (0, v3), (0, v4), (0, v5)] kd m3 q4 ∧ ∀ x5 m6, q4 x5 m6 → (zobj kd v0 8 ∧ ∃ q7, CtI d M_Mo_draws [(2, v0), (0, 2)] kd m6 q7 ∧ ∀ x8 m9, q7 x8 m9 → (zIn kd (m3 v0 0) 0 (iw (29 + x5)) ∧ (Ev (d + 1) M_Mo_draw 0 0 75 [(2, v0), zJ, (0, v2), (0, v3), (0, v4), (0, iw (v5 + 1))] [] kd (zup m9 (m3 v0 0) (iw (29 + x5)) x8) (zqI kd q)))))))))) : Ev (d + 1) M_Mo_draw 0 0 75 [(2, v0), zJ, (0, v2), (0, v3), (0, v4), (0, v5)] [] kd m (zqI kd q) := by
  refine EvX.blk (pc' := 79) [(.iload 5, 0, 0), (.aload_n 0, 0, 0), (.iconst 1, 0, 0)] (by decide +kernel) trivial ?_
  show Ev (d + 1) M_Mo_draw 0 0 79 [(2, v0), zJ, (0, v2), (0, v3), (0, v4), (0, v5)] [(0, 1), (2, v0), (0, v5)] kd m (zqI kd q)
  obtain ⟨ov, h⟩ := h
  obtain ⟨q1, hq, h⟩ := h
  refine EvX.callV (c := 8) (mc := 0) (ms := 0) (as := [(0, 1)]) (st := [(0, v5)]) (by decide +kernel) l_Mo_167 k_Mo_answers v_Mo_answers a_Mo_answers (by decide) (Nat.le_of_ble_eq_true rfl) rfl ov hq (fun r kd1 m3 hr => ?_)
  obtain ⟨x2, rfl, hk, hr⟩ := hr
  subst kd1
  have h := h x2 m3 hr
  show Ev (d + 1) M_Mo_draw 0 0 82 [(2, v0), zJ, (0, v2), (0, v3), (0, v4), (0, v5)] [(0, x2), (0, v5)] kd m3 (zqI kd q)
  refine EvX.icmp_ge (off := 31) (tgt := 113) (by decide +kernel) (by decide) (fun hc => ?_) (fun hc => ?_)
  · have h := h.1 hc
    refine EvX.blk (pc' := 116) [(.iinc 4 1, 0, 0)] (by decide +kernel) trivial ?_
    show Ev (d + 1) M_Mo_draw 0 0 116 [(2, v0), zJ, (0, v2), (0, v3), (0, iw (v4 + 1)), (0, v5)] [] kd m3 (zqI kd q)
    refine EvX.goto (off := (-54)) (tgt := 62) (by decide +kernel) (by decide) ?_
    exact EvX.weak (ls2 := [(2, v0), zJ, (0, v2), (0, v3), (0, iw (v4 + 1)), zJ]) (zwk_of ⟨Or.inr rfl, Or.inl rfl, Or.inr rfl, Or.inr rfl, Or.inr rfl, Or.inl rfl, trivial⟩) h
  · have h := h.2 hc
    obtain ⟨o1, h⟩ := h
    refine EvX.blk (pc' := 97) [(.aload_n 0, 0, 0), (.getfield 9, 8, 0), (.bipush 29, 0, 0), (.iload_n 2, 0, 0), (.iload_n 3, 0, 0), (.iload 4, 0, 0), (.iload 5, 0, 0)] (by decide +kernel) ⟨g_Mo_9, trivial⟩ ⟨o1, ?_⟩
    show Ev (d + 1) M_Mo_draw 0 0 97 [(2, v0), zJ, (0, v2), (0, v3), (0, v4), (0, v5)] [(0, v5), (0, v4), (0, v3), (0, v2), (0, 29), (2, m3 v0 0)] kd m3 (zqI kd q)
    obtain ⟨q4, hq, h⟩ := h
    refine EvX.callS (mc := 0) (ms := 0) (as := [(0, v2), (0, v3), (0, v4), (0, v5)]) (st := [(0, 29), (2, m3 v0 0)]) (by decide +kernel) l_Mo_122 k_Mo_fourOf s_Mo_fourOf a_Mo_fourOf (by decide) (Nat.le_of_ble_eq_true rfl) hq (fun r kd1 m6 hr => ?_)
    obtain ⟨x5, rfl, hk, hr⟩ := hr
    subst kd1
    have h := h x5 m6 hr
    show Ev (d + 1) M_Mo_draw 0 0 100 [(2, v0), zJ, (0, v2), (0, v3), (0, v4), (0, v5)] [(0, x5), (0, 29), (2, m3 v0 0)] kd m6 (zqI kd q)
    refine EvX.blk (pc' := 103) [(.iadd, 0, 0), (.aload_n 0, 0, 0), (.iconst 2, 0, 0)] (by decide +kernel) trivial ?_
    show Ev (d + 1) M_Mo_draw 0 0 103 [(2, v0), zJ, (0, v2), (0, v3), (0, v4), (0, v5)] [(0, 2), (2, v0), (0, iw (29 + x5)), (2, m3 v0 0)] kd m6 (zqI kd q)
    obtain ⟨ov, h⟩ := h
    obtain ⟨q7, hq, h⟩ := h
    refine EvX.callV (c := 8) (mc := 0) (ms := 0) (as := [(0, 2)]) (st := [(0, iw (29 + x5)), (2, m3 v0 0)]) (by decide +kernel) l_Mo_239 k_Mo_draws v_Mo_draws a_Mo_draws (by decide) (Nat.le_of_ble_eq_true rfl) rfl ov hq (fun r kd1 m9 hr => ?_)
    obtain ⟨x8, rfl, hk, hr⟩ := hr
    subst kd1
    have h := h x8 m9 hr
    show Ev (d + 1) M_Mo_draw 0 0 106 [(2, v0), zJ, (0, v2), (0, v3), (0, v4), (0, v5)] [(0, x8), (0, iw (29 + x5)), (2, m3 v0 0)] kd m9 (zqI kd q)
    obtain ⟨o1, h⟩ := h
    refine EvX.blk (pc' := 110) [(.iastore, 0, 0), (.iinc 5 1, 0, 0)] (by decide +kernel) trivial ⟨o1, ?_⟩
    show Ev (d + 1) M_Mo_draw 0 0 110 [(2, v0), zJ, (0, v2), (0, v3), (0, v4), (0, iw (v5 + 1))] [] kd (zup m9 (m3 v0 0) (iw (29 + x5)) x8) (zqI kd q)
    refine EvX.goto (off := (-35)) (tgt := 75) (by decide +kernel) (by decide) ?_
    exact h
set_option maxRecDepth 20000 in
set_option maxHeartbeats 1000000 in
theorem T_Mo_wins_0 {d : Nat} {kd : ZK} {m : ZM} {q : Int → ZM → Prop} {v0 v1 v2 v3 v4 : Int} (h : (zobj kd v0 8 ∧ ∃ q1, CtI d M_Mo_areFour [(2, v0), (0, v1), (0, v2), (0, v3), (0, v4)] kd m q1 ∧ ∀ x2 m3, q1 x2 m3 → ((x2 = 0 → q (-1) m3) ∧ (¬ x2 = 0 → (zobj kd v0 8 ∧ (∃ q4, CtI d M_Mo_fourOf [(0, v1), (0, v2), (0, v3), (0, v4)] kd m3 q4 ∧ ∀ x5 m6, q4 x5 m6 → (zIn kd (m3 v0 0) 0 (iw (29 + x5)) ∧ q (m6 (m3 v0 0) (iw (29 + x5))) m6))))))) : Ev (d + 1) M_Mo_wins 0 0 0 [(2, v0), (0, v1), (0, v2), (0, v3), (0, v4)] [] kd m (zqI kd q) := by
  refine EvX.blk (pc' := 6) [(.aload_n 0, 0, 0), (.iload_n 1, 0, 0), (.iload_n 2, 0, 0), (.iload_n 3, 0, 0), (.iload 4, 0, 0)] (by decide +kernel) trivial ?_
  show Ev (d + 1) M_Mo_wins 0 0 6 [(2, v0), (0, v1), (0, v2), (0, v3), (0, v4)] [(0, v4), (0, v3), (0, v2), (0, v1), (2, v0)] kd m (zqI kd q)
  obtain ⟨ov, h⟩ := h
  obtain ⟨q1, hq, h⟩ := h
  refine EvX.callV (c := 8) (mc := 0) (ms := 0) (as := [(0, v1), (0, v2), (0, v3), (0, v4)]) (st := []) (by decide +kernel) l_Mo_191 k_Mo_areFour v_Mo_areFour a_Mo_areFour (by decide) (Nat.le_of_ble_eq_true rfl) rfl ov hq (fun r kd1 m3 hr => ?_)
  obtain ⟨x2, rfl, hk, hr⟩ := hr
  subst kd1
  have h := h x2 m3 hr
  show Ev (d + 1) M_Mo_wins 0 0 9 [(2, v0), (0, v1), (0, v2), (0, v3), (0, v4)] [(0, x2)] kd m3 (zqI kd q)
  refine EvX.if_eq (off := 22) (tgt := 31) (by decide +kernel) (by decide) (fun hc => ?_) (fun hc => ?_)
  · have h := h.1 hc
    refine EvX.blk (pc' := 32) [(.iconst (-1), 0, 0)] (by decide +kernel) trivial ?_
    show Ev (d + 1) M_Mo_wins 0 0 32 [(2, v0), (0, v1), (0, v2), (0, v3), (0, v4)] [(0, (-1))] kd m3 (zqI kd q)
    exact EvX.ret (r := (0, (-1))) (by decide +kernel) rfl ⟨_, rfl, rfl, h⟩
  · have h := h.2 hc
    obtain ⟨o1, h⟩ := h
    refine EvX.blk (pc' := 23) [(.aload_n 0, 0, 0), (.getfield 9, 8, 0), (.bipush 29, 0, 0), (.iload_n 1, 0, 0), (.iload_n 2, 0, 0), (.iload_n 3, 0, 0), (.iload 4, 0, 0)] (by decide +kernel) ⟨g_Mo_9, trivial⟩ ⟨o1, ?_⟩
    show Ev (d + 1) M_Mo_wins 0 0 23 [(2, v0), (0, v1), (0, v2), (0, v3), (0, v4)] [(0, v4), (0, v3), (0, v2), (0, v1), (0, 29), (2, m3 v0 0)] kd m3 (zqI kd q)
    obtain ⟨q4, hq, h⟩ := h
    refine EvX.callS (mc := 0) (ms := 0) (as := [(0, v1), (0, v2), (0, v3), (0, v4)]) (st := [(0, 29), (2, m3 v0 0)]) (by decide +kernel) l_Mo_122 k_Mo_fourOf s_Mo_fourOf a_Mo_fourOf (by decide) (Nat.le_of_ble_eq_true rfl) hq (fun r kd1 m6 hr => ?_)
    obtain ⟨x5, rfl, hk, hr⟩ := hr
    subst kd1
    have h := h x5 m6 hr
    show Ev (d + 1) M_Mo_wins 0 0 26 [(2, v0), (0, v1), (0, v2), (0, v3), (0, v4)] [(0, x5), (0, 29), (2, m3 v0 0)] kd m6 (zqI kd q)
    obtain ⟨o1, h⟩ := h
    refine EvX.blk (pc' := 28) [(.iadd, 0, 0), (.iaload, 0, 0)] (by decide +kernel) trivial ⟨o1, ?_⟩
    show Ev (d + 1) M_Mo_wins 0 0 28 [(2, v0), (0, v1), (0, v2), (0, v3), (0, v4)] [(0, m6 (m3 v0 0) (iw (29 + x5)))] kd m6 (zqI kd q)
    refine EvX.goto (off := 4) (tgt := 32) (by decide +kernel) (by decide) ?_
    exact EvX.ret (r := (0, m6 (m3 v0 0) (iw (29 + x5)))) (by decide +kernel) rfl ⟨_, rfl, rfl, h⟩
theorem S_Mo_wins {d : Nat} {kd : ZK} {m : ZM} {q : Int → ZM → Prop} {v0 v1 v2 v3 v4 : Int} (h : (zobj kd v0 8 ∧ ∃ q1, CtI d M_Mo_areFour [(2, v0), (0, v1), (0, v2), (0, v3), (0, v4)] kd m q1 ∧ ∀ x2 m3, q1 x2 m3 → ((x2 = 0 → q (-1) m3) ∧ (¬ x2 = 0 → (zobj kd v0 8 ∧ (∃ q4, CtI d M_Mo_fourOf [(0, v1), (0, v2), (0, v3), (0, v4)] kd m3 q4 ∧ ∀ x5 m6, q4 x5 m6 → (zIn kd (m3 v0 0) 0 (iw (29 + x5)) ∧ q (m6 (m3 v0 0) (iw (29 + x5))) m6))))))) : CtI (d + 1) M_Mo_wins [(2, v0), (0, v1), (0, v2), (0, v3), (0, v4)] kd m q :=
  Ct.start k_Mo_wins (Nat.le_of_ble_eq_true rfl) ⟨1, Or.inr (Or.inl ⟨rfl, rfl⟩)⟩ (T_Mo_wins_0 h)
set_option maxRecDepth 20000 in
set_option maxHeartbeats 1000000 in
theorem T_Mo_weight_0 {d : Nat} {kd : ZK} {m : ZM} {q : Int → ZM → Prop} {v0 v1 v2 : Int} (h : (zobj kd v0 8 ∧ ∃ q1, CtI d M_Mo_areTwo [(2, v0), (0, v1), (0, v2)] kd m q1 ∧ ∀ x2 m3, q1 x2 m3 → ((x2 = 0 → q (-1) m3) ∧ (¬ x2 = 0 → (zobj kd v0 8 ∧ ∃ q4, CtI d M_Mo_weightOf [(2, v0), (0, v1), (0, v2)] kd m3 q4 ∧ ∀ x5 m6, q4 x5 m6 → q x5 m6))))) : Ev (d + 1) M_Mo_weight 0 0 0 [(2, v0), (0, v1), (0, v2)] [] kd m (zqI kd q) := by
  refine EvX.blk (pc' := 3) [(.aload_n 0, 0, 0), (.iload_n 1, 0, 0), (.iload_n 2, 0, 0)] (by decide +kernel) trivial ?_
  show Ev (d + 1) M_Mo_weight 0 0 3 [(2, v0), (0, v1), (0, v2)] [(0, v2), (0, v1), (2, v0)] kd m (zqI kd q)
  obtain ⟨ov, h⟩ := h
  obtain ⟨q1, hq, h⟩ := h
  refine EvX.callV (c := 8) (mc := 0) (ms := 0) (as := [(0, v1), (0, v2)]) (st := []) (by decide +kernel) l_Mo_174 k_Mo_areTwo v_Mo_areTwo a_Mo_areTwo (by decide) (Nat.le_of_ble_eq_true rfl) rfl ov hq (fun r kd1 m3 hr => ?_)
  obtain ⟨x2, rfl, hk, hr⟩ := hr
  subst kd1
  have h := h x2 m3 hr
  show Ev (d + 1) M_Mo_weight 0 0 6 [(2, v0), (0, v1), (0, v2)] [(0, x2)] kd m3 (zqI kd q)
  refine EvX.if_eq (off := 12) (tgt := 18) (by decide +kernel) (by decide) (fun hc => ?_) (fun hc => ?_)
  · have h := h.1 hc
    refine EvX.blk (pc' := 19) [(.iconst (-1), 0, 0)] (by decide +kernel) trivial ?_
    show Ev (d + 1) M_Mo_weight 0 0 19 [(2, v0), (0, v1), (0, v2)] [(0, (-1))] kd m3 (zqI kd q)
    exact EvX.ret (r := (0, (-1))) (by decide +kernel) rfl ⟨_, rfl, rfl, h⟩
  · have h := h.2 hc
    refine EvX.blk (pc' := 12) [(.aload_n 0, 0, 0), (.iload_n 1, 0, 0), (.iload_n 2, 0, 0)] (by decide +kernel) trivial ?_
    show Ev (d + 1) M_Mo_weight 0 0 12 [(2, v0), (0, v1), (0, v2)] [(0, v2), (0, v1), (2, v0)] kd m3 (zqI kd q)
    obtain ⟨ov, h⟩ := h
    obtain ⟨q4, hq, h⟩ := h
    refine EvX.callV (c := 8) (mc := 0) (ms := 0) (as := [(0, v1), (0, v2)]) (st := []) (by decide +kernel) l_Mo_180 k_Mo_weightOf v_Mo_weightOf a_Mo_weightOf (by decide) (Nat.le_of_ble_eq_true rfl) rfl ov hq (fun r kd1 m6 hr => ?_)
    obtain ⟨x5, rfl, hk, hr⟩ := hr
    subst kd1
    have h := h x5 m6 hr
    show Ev (d + 1) M_Mo_weight 0 0 15 [(2, v0), (0, v1), (0, v2)] [(0, x5)] kd m6 (zqI kd q)
    refine EvX.goto (off := 4) (tgt := 19) (by decide +kernel) (by decide) ?_
    exact EvX.ret (r := (0, x5)) (by decide +kernel) rfl ⟨_, rfl, rfl, h⟩
theorem S_Mo_weight {d : Nat} {kd : ZK} {m : ZM} {q : Int → ZM → Prop} {v0 v1 v2 : Int} (h : (zobj kd v0 8 ∧ ∃ q1, CtI d M_Mo_areTwo [(2, v0), (0, v1), (0, v2)] kd m q1 ∧ ∀ x2 m3, q1 x2 m3 → ((x2 = 0 → q (-1) m3) ∧ (¬ x2 = 0 → (zobj kd v0 8 ∧ ∃ q4, CtI d M_Mo_weightOf [(2, v0), (0, v1), (0, v2)] kd m3 q4 ∧ ∀ x5 m6, q4 x5 m6 → q x5 m6))))) : CtI (d + 1) M_Mo_weight [(2, v0), (0, v1), (0, v2)] kd m q :=
  Ct.start k_Mo_weight (Nat.le_of_ble_eq_true rfl) ⟨1, Or.inr (Or.inl ⟨rfl, rfl⟩)⟩ (T_Mo_weight_0 h)
set_option maxRecDepth 20000 in
set_option maxHeartbeats 1000000 in
theorem T_Mo_laysBy_0 {d : Nat} {kd : ZK} {m : ZM} {q : ZM → Prop} {v0 v1 v2 : Int} (h : (zobj kd v0 8 ∧ ∃ q1, CtR d M_Mo_rowOf [(2, v0), (0, v1)] kd m q1 ∧ ∀ x2 m3, q1 x2 m3 → (Ev (d + 1) M_Mo_laysBy 0 0 9 [(2, v0), (0, v1), (0, v2), (2, x2), (0, 0), zJ] [] kd m3 (zqV kd q)))) : Ev (d + 1) M_Mo_laysBy 0 0 0 [(2, v0), (0, v1), (0, v2), zJ, zJ, zJ] [] kd m (zqV kd q) := by
  refine EvX.blk (pc' := 2) [(.aload_n 0, 0, 0), (.iload_n 1, 0, 0)] (by decide +kernel) trivial ?_
  show Ev (d + 1) M_Mo_laysBy 0 0 2 [(2, v0), (0, v1), (0, v2), zJ, zJ, zJ] [(0, v1), (2, v0)] kd m (zqV kd q)
  obtain ⟨ov, h⟩ := h
  obtain ⟨q1, hq, h⟩ := h
  refine EvX.callV (c := 8) (mc := 0) (ms := 0) (as := [(0, v1)]) (st := []) (by decide +kernel) l_Mo_222 k_Mo_rowOf v_Mo_rowOf a_Mo_rowOf (by decide) (Nat.le_of_ble_eq_true rfl) rfl ov hq (fun r kd1 m3 hr => ?_)
  obtain ⟨x2, rfl, hk, hr⟩ := hr
  subst kd1
  have h := h x2 m3 hr
  show Ev (d + 1) M_Mo_laysBy 0 0 5 [(2, v0), (0, v1), (0, v2), zJ, zJ, zJ] [(2, x2)] kd m3 (zqV kd q)
  refine EvX.blk (pc' := 9) [(.astore_n 3, 0, 0), (.iconst 0, 0, 0), (.istore 4, 0, 0)] (by decide +kernel) trivial ?_
  show Ev (d + 1) M_Mo_laysBy 0 0 9 [(2, v0), (0, v1), (0, v2), (2, x2), (0, 0), zJ] [] kd m3 (zqV kd q)
  exact h
theorem S_Mo_laysBy {d : Nat} {kd : ZK} {m : ZM} {q : ZM → Prop} {v0 v1 v2 : Int} (h : (zobj kd v0 8 ∧ ∃ q1, CtR d M_Mo_rowOf [(2, v0), (0, v1)] kd m q1 ∧ ∀ x2 m3, q1 x2 m3 → (Ev (d + 1) M_Mo_laysBy 0 0 9 [(2, v0), (0, v1), (0, v2), (2, x2), (0, 0), zJ] [] kd m3 (zqV kd q)))) : CtV (d + 1) M_Mo_laysBy [(2, v0), (0, v1), (0, v2)] kd m q :=
  Ct.start k_Mo_laysBy (Nat.le_of_ble_eq_true rfl) ⟨0, Or.inl ⟨rfl, rfl⟩⟩ (T_Mo_laysBy_0 h)
set_option maxRecDepth 20000 in
set_option maxHeartbeats 1000000 in
theorem T_Mo_laysBy_9 {d : Nat} {kd : ZK} {m : ZM} {q : ZM → Prop} {v0 v1 v2 v3 v4 : Int} (h : (zobj kd v0 8 ∧ ∃ q1, CtI d M_Mo_answers [(2, v0), (0, iw (1 - v1))] kd m q1 ∧ ∀ x2 m3, q1 x2 m3 → ((x2 ≤ v4 → q m3) ∧ (¬ x2 ≤ v4 → (zobj kd v0 8 ∧ zIn kd (m3 v0 15) 0 v4 ∧ (Ev (d + 1) M_Mo_laysBy 0 0 32 [(2, v0), (0, v1), (0, v2), (2, v3), (0, v4), (0, 0)] [] kd (zup m3 (m3 v0 15) v4 0) (zqV kd q))))))) : Ev (d + 1) M_Mo_laysBy 0 0 9 [(2, v0), (0, v1), (0, v2), (2, v3), (0, v4), zJ] [] kd m (zqV kd q) := by
  refine EvX.blk (pc' := 15) [(.iload 4, 0, 0), (.aload_n 0, 0, 0), (.iconst 1, 0, 0), (.iload_n 1, 0, 0), (.isub, 0, 0)] (by decide +kernel) trivial ?_
  show Ev (d + 1) M_Mo_laysBy 0 0 15 [(2, v0), (0, v1), (0, v2), (2, v3), (0, v4), zJ] [(0, iw (1 - v1)), (2, v0), (0, v4)] kd m (zqV kd q)
  obtain ⟨ov, h⟩ := h
  obtain ⟨q1, hq, h⟩ := h
  refine EvX.callV (c := 8) (mc := 0) (ms := 0) (as := [(0, iw (1 - v1))]) (st := [(0, v4)]) (by decide +kernel) l_Mo_167 k_Mo_answers v_Mo_answers a_Mo_answers (by decide) (Nat.le_of_ble_eq_true rfl) rfl ov hq (fun r kd1 m3 hr => ?_)
  obtain ⟨x2, rfl, hk, hr⟩ := hr
  subst kd1
  have h := h x2 m3 hr
  show Ev (d + 1) M_Mo_laysBy 0 0 18 [(2, v0), (0, v1), (0, v2), (2, v3), (0, v4), zJ] [(0, x2), (0, v4)] kd m3 (zqV kd q)
  refine EvX.icmp_ge (off := 71) (tgt := 89) (by decide +kernel) (by decide) (fun hc => ?_) (fun hc => ?_)
  · have h := h.1 hc
    exact EvX.ret (r := zJ) (by decide +kernel) rfl ⟨rfl, rfl, h⟩
  · have h := h.2 hc
    obtain ⟨o1, o2, h⟩ := h
    refine EvX.blk (pc' := 32) [(.aload_n 0, 0, 0), (.getfield 39, 8, 15), (.iload 4, 0, 0), (.iconst 0, 0, 0), (.iastore, 0, 0), (.iconst 0, 0, 0), (.istore 5, 0, 0)] (by decide +kernel) ⟨g_Mo_39, trivial⟩ ⟨o1, o2, ?_⟩
    show Ev (d + 1) M_Mo_laysBy 0 0 32 [(2, v0), (0, v1), (0, v2), (2, v3), (0, v4), (0, 0)] [] kd (zup m3 (m3 v0 15) v4 0) (zqV kd q)
    exact h
set_option maxRecDepth 20000 in
set_option maxHeartbeats 1000000 in
theorem T_Mo_laysBy_32 {d : Nat} {kd : ZK} {m : ZM} {q : ZM → Prop} {v0 v1 v2 v3 v4 v5 : Int} (h : (zobj kd v0 8 ∧ ∃ q1, CtI d M_Mo_questions [(2, v0), (0, v1)] kd m q1 ∧ ∀ x2 m3, q1 x2 m3 → ((x2 ≤ v5 → (Ev (d + 1) M_Mo_laysBy 0 0 9 [(2, v0), (0, v1), (0, v2), (2, v3), (0, iw (v4 + 1)), zJ] [] kd m3 (zqV kd q))) ∧ (¬ x2 ≤ v5 → (zobj kd v0 8 ∧ zIn kd (m3 v0 15) 0 v4 ∧ zIn kd v3 0 v5 ∧ (zobj kd v0 8 ∧ ∃ q4, CtI d M_Mo_seen [(2, v0), (0, v1), (0, 29), (0, v5), (0, v2), (0, m3 v3 v5), (0, v4)] kd m3 q4 ∧ ∀ x5 m6, q4 x5 m6 → (zobj kd v0 8 ∧ ∃ q7, CtI d M_Mo_weightSeen [(2, v0), (0, v1), (0, v5), (0, v2)] kd m6 q7 ∧ ∀ x8 m9, q7 x8 m9 → (zIn kd (m3 v0 15) 0 v4 ∧ (Ev (d + 1) M_Mo_laysBy 0 0 32 [(2, v0), (0, v1), (0, v2), (2, v3), (0, v4), (0, iw (v5 + 1))] [] kd (zup m9 (m3 v0 15) v4 (iw ((m3 (m3 v0 15) v4) + (iw (x5 * x8))))) (zqV kd q)))))))))) : Ev (d + 1) M_Mo_laysBy 0 0 32 [(2, v0), (0, v1), (0, v2), (2, v3), (0, v4), (0, v5)] [] kd m (zqV kd q) := by
  refine EvX.blk (pc' := 36) [(.iload 5, 0, 0), (.aload_n 0, 0, 0), (.iload_n 1, 0, 0)] (by decide +kernel) trivial ?_
  show Ev (d + 1) M_Mo_laysBy 0 0 36 [(2, v0), (0, v1), (0, v2), (2, v3), (0, v4), (0, v5)] [(0, v1), (2, v0), (0, v5)] kd m (zqV kd q)
  obtain ⟨ov, h⟩ := h
  obtain ⟨q1, hq, h⟩ := h
  refine EvX.callV (c := 8) (mc := 0) (ms := 0) (as := [(0, v1)]) (st := [(0, v5)]) (by decide +kernel) l_Mo_163 k_Mo_questions v_Mo_questions a_Mo_questions (by decide) (Nat.le_of_ble_eq_true rfl) rfl ov hq (fun r kd1 m3 hr => ?_)
  obtain ⟨x2, rfl, hk, hr⟩ := hr
  subst kd1
  have h := h x2 m3 hr
  show Ev (d + 1) M_Mo_laysBy 0 0 39 [(2, v0), (0, v1), (0, v2), (2, v3), (0, v4), (0, v5)] [(0, x2), (0, v5)] kd m3 (zqV kd q)
  refine EvX.icmp_ge (off := 44) (tgt := 83) (by decide +kernel) (by decide) (fun hc => ?_) (fun hc => ?_)
  · have h := h.1 hc
    refine EvX.blk (pc' := 86) [(.iinc 4 1, 0, 0)] (by decide +kernel) trivial ?_
    show Ev (d + 1) M_Mo_laysBy 0 0 86 [(2, v0), (0, v1), (0, v2), (2, v3), (0, iw (v4 + 1)), (0, v5)] [] kd m3 (zqV kd q)
    refine EvX.goto (off := (-77)) (tgt := 9) (by decide +kernel) (by decide) ?_
    exact EvX.weak (ls2 := [(2, v0), (0, v1), (0, v2), (2, v3), (0, iw (v4 + 1)), zJ]) (zwk_of ⟨Or.inr rfl, Or.inr rfl, Or.inr rfl, Or.inr rfl, Or.inr rfl, Or.inl rfl, trivial⟩) h
  · have h := h.2 hc
    obtain ⟨o1, o2, o3, h⟩ := h
    refine EvX.blk (pc' := 63) [(.aload_n 0, 0, 0), (.getfield 39, 8, 15), (.iload 4, 0, 0), (.dup2, 0, 0), (.iaload, 0, 0), (.aload_n 0, 0, 0), (.iload_n 1, 0, 0), (.bipush 29, 0, 0), (.iload 5, 0, 0), (.iload_n 2, 0, 0), (.aload_n 3, 0, 0), (.iload 5, 0, 0), (.iaload, 0, 0), (.iload 4, 0, 0)] (by decide +kernel) ⟨g_Mo_39, trivial⟩ ⟨o1, o2, o3, ?_⟩
    show Ev (d + 1) M_Mo_laysBy 0 0 63 [(2, v0), (0, v1), (0, v2), (2, v3), (0, v4), (0, v5)] [(0, v4), (0, m3 v3 v5), (0, v2), (0, v5), (0, 29), (0, v1), (2, v0), (0, m3 (m3 v0 15) v4), (0, v4), (2, m3 v0 15)] kd m3 (zqV kd q)
    obtain ⟨ov, h⟩ := h
    obtain ⟨q4, hq, h⟩ := h
    refine EvX.callV (c := 8) (mc := 0) (ms := 0) (as := [(0, v1), (0, 29), (0, v5), (0, v2), (0, m3 v3 v5), (0, v4)]) (st := [(0, m3 (m3 v0 15) v4), (0, v4), (2, m3 v0 15)]) (by decide +kernel) l_Mo_245 k_Mo_seen v_Mo_seen a_Mo_seen (by decide) (Nat.le_of_ble_eq_true rfl) rfl ov hq (fun r kd1 m6 hr => ?_)
    obtain ⟨x5, rfl, hk, hr⟩ := hr
    subst kd1
    have h := h x5 m6 hr
    show Ev (d + 1) M_Mo_laysBy 0 0 66 [(2, v0), (0, v1), (0, v2), (2, v3), (0, v4), (0, v5)] [(0, x5), (0, m3 (m3 v0 15) v4), (0, v4), (2, m3 v0 15)] kd m6 (zqV kd q)
    refine EvX.blk (pc' := 71) [(.aload_n 0, 0, 0), (.iload_n 1, 0, 0), (.iload 5, 0, 0), (.iload_n 2, 0, 0)] (by decide +kernel) trivial ?_
    show Ev (d + 1) M_Mo_laysBy 0 0 71 [(2, v0), (0, v1), (0, v2), (2, v3), (0, v4), (0, v5)] [(0, v2), (0, v5), (0, v1), (2, v0), (0, x5), (0, m3 (m3 v0 15) v4), (0, v4), (2, m3 v0 15)] kd m6 (zqV kd q)
    obtain ⟨ov, h⟩ := h
    obtain ⟨q7, hq, h⟩ := h
    refine EvX.callV (c := 8) (mc := 0) (ms := 0) (as := [(0, v1), (0, v5), (0, v2)]) (st := [(0, x5), (0, m3 (m3 v0 15) v4), (0, v4), (2, m3 v0 15)]) (by decide +kernel) l_Mo_249 k_Mo_weightSeen v_Mo_weightSeen a_Mo_weightSeen (by decide) (Nat.le_of_ble_eq_true rfl) rfl ov hq (fun r kd1 m9 hr => ?_)
    obtain ⟨x8, rfl, hk, hr⟩ := hr
    subst kd1
    have h := h x8 m9 hr
    show Ev (d + 1) M_Mo_laysBy 0 0 74 [(2, v0), (0, v1), (0, v2), (2, v3), (0, v4), (0, v5)] [(0, x8), (0, x5), (0, m3 (m3 v0 15) v4), (0, v4), (2, m3 v0 15)] kd m9 (zqV kd q)
    obtain ⟨o1, h⟩ := h
    refine EvX.blk (pc' := 80) [(.imul, 0, 0), (.iadd, 0, 0), (.iastore, 0, 0), (.iinc 5 1, 0, 0)] (by decide +kernel) trivial ⟨o1, ?_⟩
    show Ev (d + 1) M_Mo_laysBy 0 0 80 [(2, v0), (0, v1), (0, v2), (2, v3), (0, v4), (0, iw (v5 + 1))] [] kd (zup m9 (m3 v0 15) v4 (iw ((m3 (m3 v0 15) v4) + (iw (x5 * x8))))) (zqV kd q)
    refine EvX.goto (off := (-48)) (tgt := 32) (by decide +kernel) (by decide) ?_
    exact h
set_option maxRecDepth 20000 in
set_option maxHeartbeats 1000000 in
theorem T_Mo_bestBy_0 {d : Nat} {kd : ZK} {m : ZM} {q : Int → ZM → Prop} {v0 v1 : Int} (h : (Ev (d + 1) M_Mo_bestBy 0 0 4 [(2, v0), (0, v1), (0, 0), (0, 0)] [] kd m (zqI kd q))) : Ev (d + 1) M_Mo_bestBy 0 0 0 [(2, v0), (0, v1), zJ, zJ] [] kd m (zqI kd q) := by
  refine EvX.blk (pc' := 4) [(.iconst 0, 0, 0), (.istore_n 2, 0, 0), (.iconst 0, 0, 0), (.istore_n 3, 0, 0)] (by decide +kernel) trivial ?_
  show Ev (d + 1) M_Mo_bestBy 0 0 4 [(2, v0), (0, v1), (0, 0), (0, 0)] [] kd m (zqI kd q)
  exact h
theorem S_Mo_bestBy {d : Nat} {kd : ZK} {m : ZM} {q : Int → ZM → Prop} {v0 v1 : Int} (h : (Ev (d + 1) M_Mo_bestBy 0 0 4 [(2, v0), (0, v1), (0, 0), (0, 0)] [] kd m (zqI kd q))) : CtI (d + 1) M_Mo_bestBy [(2, v0), (0, v1)] kd m q :=
  Ct.start k_Mo_bestBy (Nat.le_of_ble_eq_true rfl) ⟨1, Or.inr (Or.inl ⟨rfl, rfl⟩)⟩ (T_Mo_bestBy_0 h)
set_option maxRecDepth 20000 in
set_option maxHeartbeats 1000000 in
theorem T_Mo_bestBy_4 {d : Nat} {kd : ZK} {m : ZM} {q : Int → ZM → Prop} {v0 v1 v2 v3 : Int} (h : (zobj kd v0 8 ∧ ∃ q1, CtI d M_Mo_answers [(2, v0), (0, iw (1 - v1))] kd m q1 ∧ ∀ x2 m3, q1 x2 m3 → ((x2 ≤ v3 → q v2 m3) ∧ (¬ x2 ≤ v3 → (zobj kd v0 8 ∧ zIn kd (m3 v0 15) 0 v3 ∧ (Ev (d + 1) M_Mo_bestBy 0 0 4 [(2, v0), (0, v1), (0, zmax v2 (m3 (m3 v0 15) v3)), (0, iw (v3 + 1))] [] kd m3 (zqI kd q))))))) : Ev (d + 1) M_Mo_bestBy 0 0 4 [(2, v0), (0, v1), (0, v2), (0, v3)] [] kd m (zqI kd q) := by
  refine EvX.blk (pc' := 9) [(.iload_n 3, 0, 0), (.aload_n 0, 0, 0), (.iconst 1, 0, 0), (.iload_n 1, 0, 0), (.isub, 0, 0)] (by decide +kernel) trivial ?_
  show Ev (d + 1) M_Mo_bestBy 0 0 9 [(2, v0), (0, v1), (0, v2), (0, v3)] [(0, iw (1 - v1)), (2, v0), (0, v3)] kd m (zqI kd q)
  obtain ⟨ov, h⟩ := h
  obtain ⟨q1, hq, h⟩ := h
  refine EvX.callV (c := 8) (mc := 0) (ms := 0) (as := [(0, iw (1 - v1))]) (st := [(0, v3)]) (by decide +kernel) l_Mo_167 k_Mo_answers v_Mo_answers a_Mo_answers (by decide) (Nat.le_of_ble_eq_true rfl) rfl ov hq (fun r kd1 m3 hr => ?_)
  obtain ⟨x2, rfl, hk, hr⟩ := hr
  subst kd1
  have h := h x2 m3 hr
  show Ev (d + 1) M_Mo_bestBy 0 0 12 [(2, v0), (0, v1), (0, v2), (0, v3)] [(0, x2), (0, v3)] kd m3 (zqI kd q)
  refine EvX.icmp_ge (off := 20) (tgt := 32) (by decide +kernel) (by decide) (fun hc => ?_) (fun hc => ?_)
  · have h := h.1 hc
    refine EvX.blk (pc' := 33) [(.iload_n 2, 0, 0)] (by decide +kernel) trivial ?_
    show Ev (d + 1) M_Mo_bestBy 0 0 33 [(2, v0), (0, v1), (0, v2), (0, v3)] [(0, v2)] kd m3 (zqI kd q)
    exact EvX.ret (r := (0, v2)) (by decide +kernel) rfl ⟨_, rfl, rfl, h⟩
  · have h := h.2 hc
    obtain ⟨o1, o2, h⟩ := h
    refine EvX.blk (pc' := 22) [(.iload_n 2, 0, 0), (.aload_n 0, 0, 0), (.getfield 39, 8, 15), (.iload_n 3, 0, 0), (.iaload, 0, 0)] (by decide +kernel) ⟨g_Mo_39, trivial⟩ ⟨o1, o2, ?_⟩
    show Ev (d + 1) M_Mo_bestBy 0 0 22 [(2, v0), (0, v1), (0, v2), (0, v3)] [(0, m3 (m3 v0 15) v3), (0, v2)] kd m3 (zqI kd q)
    refine EvX.mmax' (by decide +kernel) y_Mo_253 (Nat.le_of_ble_eq_true rfl) ?_
    show Ev (d + 1) M_Mo_bestBy 0 0 25 [(2, v0), (0, v1), (0, v2), (0, v3)] [(0, zmax v2 (m3 (m3 v0 15) v3))] kd m3 (zqI kd q)
    refine EvX.blk (pc' := 29) [(.istore_n 2, 0, 0), (.iinc 3 1, 0, 0)] (by decide +kernel) trivial ?_
    show Ev (d + 1) M_Mo_bestBy 0 0 29 [(2, v0), (0, v1), (0, zmax v2 (m3 (m3 v0 15) v3)), (0, iw (v3 + 1))] [] kd m3 (zqI kd q)
    refine EvX.goto (off := (-25)) (tgt := 4) (by decide +kernel) (by decide) ?_
    exact h
set_option maxRecDepth 20000 in
set_option maxHeartbeats 1000000 in
theorem T_Mo_worstBy_0 {d : Nat} {kd : ZK} {m : ZM} {q : Int → ZM → Prop} {v0 v1 : Int} (h : (zobj kd v0 8 ∧ zIn kd (m v0 15) 0 0 ∧ (Ev (d + 1) M_Mo_worstBy 0 0 9 [(2, v0), (0, v1), (0, m (m v0 15) 0), (0, 1)] [] kd m (zqI kd q)))) : Ev (d + 1) M_Mo_worstBy 0 0 0 [(2, v0), (0, v1), zJ, zJ] [] kd m (zqI kd q) := by
  obtain ⟨o1, o2, h⟩ := h
  refine EvX.blk (pc' := 9) [(.aload_n 0, 0, 0), (.getfield 39, 8, 15), (.iconst 0, 0, 0), (.iaload, 0, 0), (.istore_n 2, 0, 0), (.iconst 1, 0, 0), (.istore_n 3, 0, 0)] (by decide +kernel) ⟨g_Mo_39, trivial⟩ ⟨o1, o2, ?_⟩
  show Ev (d + 1) M_Mo_worstBy 0 0 9 [(2, v0), (0, v1), (0, m (m v0 15) 0), (0, 1)] [] kd m (zqI kd q)
  exact h
theorem S_Mo_worstBy {d : Nat} {kd : ZK} {m : ZM} {q : Int → ZM → Prop} {v0 v1 : Int} (h : (zobj kd v0 8 ∧ zIn kd (m v0 15) 0 0 ∧ (Ev (d + 1) M_Mo_worstBy 0 0 9 [(2, v0), (0, v1), (0, m (m v0 15) 0), (0, 1)] [] kd m (zqI kd q)))) : CtI (d + 1) M_Mo_worstBy [(2, v0), (0, v1)] kd m q :=
  Ct.start k_Mo_worstBy (Nat.le_of_ble_eq_true rfl) ⟨1, Or.inr (Or.inl ⟨rfl, rfl⟩)⟩ (T_Mo_worstBy_0 h)
set_option maxRecDepth 20000 in
set_option maxHeartbeats 1000000 in
theorem T_Mo_worstBy_9 {d : Nat} {kd : ZK} {m : ZM} {q : Int → ZM → Prop} {v0 v1 v2 v3 : Int} (h : (zobj kd v0 8 ∧ ∃ q1, CtI d M_Mo_answers [(2, v0), (0, iw (1 - v1))] kd m q1 ∧ ∀ x2 m3, q1 x2 m3 → ((x2 ≤ v3 → q v2 m3) ∧ (¬ x2 ≤ v3 → (zobj kd v0 8 ∧ zIn kd (m3 v0 15) 0 v3 ∧ (Ev (d + 1) M_Mo_worstBy 0 0 9 [(2, v0), (0, v1), (0, zmin v2 (m3 (m3 v0 15) v3)), (0, iw (v3 + 1))] [] kd m3 (zqI kd q))))))) : Ev (d + 1) M_Mo_worstBy 0 0 9 [(2, v0), (0, v1), (0, v2), (0, v3)] [] kd m (zqI kd q) := by
  refine EvX.blk (pc' := 14) [(.iload_n 3, 0, 0), (.aload_n 0, 0, 0), (.iconst 1, 0, 0), (.iload_n 1, 0, 0), (.isub, 0, 0)] (by decide +kernel) trivial ?_
  show Ev (d + 1) M_Mo_worstBy 0 0 14 [(2, v0), (0, v1), (0, v2), (0, v3)] [(0, iw (1 - v1)), (2, v0), (0, v3)] kd m (zqI kd q)
  obtain ⟨ov, h⟩ := h
  obtain ⟨q1, hq, h⟩ := h
  refine EvX.callV (c := 8) (mc := 0) (ms := 0) (as := [(0, iw (1 - v1))]) (st := [(0, v3)]) (by decide +kernel) l_Mo_167 k_Mo_answers v_Mo_answers a_Mo_answers (by decide) (Nat.le_of_ble_eq_true rfl) rfl ov hq (fun r kd1 m3 hr => ?_)
  obtain ⟨x2, rfl, hk, hr⟩ := hr
  subst kd1
  have h := h x2 m3 hr
  show Ev (d + 1) M_Mo_worstBy 0 0 17 [(2, v0), (0, v1), (0, v2), (0, v3)] [(0, x2), (0, v3)] kd m3 (zqI kd q)
  refine EvX.icmp_ge (off := 20) (tgt := 37) (by decide +kernel) (by decide) (fun hc => ?_) (fun hc => ?_)
  · have h := h.1 hc
    refine EvX.blk (pc' := 38) [(.iload_n 2, 0, 0)] (by decide +kernel) trivial ?_
    show Ev (d + 1) M_Mo_worstBy 0 0 38 [(2, v0), (0, v1), (0, v2), (0, v3)] [(0, v2)] kd m3 (zqI kd q)
    exact EvX.ret (r := (0, v2)) (by decide +kernel) rfl ⟨_, rfl, rfl, h⟩
  · have h := h.2 hc
    obtain ⟨o1, o2, h⟩ := h
    refine EvX.blk (pc' := 27) [(.iload_n 2, 0, 0), (.aload_n 0, 0, 0), (.getfield 39, 8, 15), (.iload_n 3, 0, 0), (.iaload, 0, 0)] (by decide +kernel) ⟨g_Mo_39, trivial⟩ ⟨o1, o2, ?_⟩
    show Ev (d + 1) M_Mo_worstBy 0 0 27 [(2, v0), (0, v1), (0, v2), (0, v3)] [(0, m3 (m3 v0 15) v3), (0, v2)] kd m3 (zqI kd q)
    refine EvX.mmin' (by decide +kernel) y_Mo_117 (Nat.le_of_ble_eq_true rfl) ?_
    show Ev (d + 1) M_Mo_worstBy 0 0 30 [(2, v0), (0, v1), (0, v2), (0, v3)] [(0, zmin v2 (m3 (m3 v0 15) v3))] kd m3 (zqI kd q)
    refine EvX.blk (pc' := 34) [(.istore_n 2, 0, 0), (.iinc 3 1, 0, 0)] (by decide +kernel) trivial ?_
    show Ev (d + 1) M_Mo_worstBy 0 0 34 [(2, v0), (0, v1), (0, zmin v2 (m3 (m3 v0 15) v3)), (0, iw (v3 + 1))] [] kd m3 (zqI kd q)
    refine EvX.goto (off := (-25)) (tgt := 9) (by decide +kernel) (by decide) ?_
    exact h
set_option maxRecDepth 20000 in
set_option maxHeartbeats 1000000 in
theorem T_Mo_reached_0 {d : Nat} {kd : ZK} {m : ZM} {q : Int → ZM → Prop} {v0 v1 v2 : Int} (h : (Ev (d + 1) M_Mo_reached 0 0 5 [(2, v0), (0, v1), (0, v2), (0, 0), (0, 0)] [] kd m (zqI kd q))) : Ev (d + 1) M_Mo_reached 0 0 0 [(2, v0), (0, v1), (0, v2), zJ, zJ] [] kd m (zqI kd q) := by
  refine EvX.blk (pc' := 5) [(.iconst 0, 0, 0), (.istore_n 3, 0, 0), (.iconst 0, 0, 0), (.istore 4, 0, 0)] (by decide +kernel) trivial ?_
  show Ev (d + 1) M_Mo_reached 0 0 5 [(2, v0), (0, v1), (0, v2), (0, 0), (0, 0)] [] kd m (zqI kd q)
  exact h
theorem S_Mo_reached {d : Nat} {kd : ZK} {m : ZM} {q : Int → ZM → Prop} {v0 v1 v2 : Int} (h : (Ev (d + 1) M_Mo_reached 0 0 5 [(2, v0), (0, v1), (0, v2), (0, 0), (0, 0)] [] kd m (zqI kd q))) : CtI (d + 1) M_Mo_reached [(2, v0), (0, v1), (0, v2)] kd m q :=
  Ct.start k_Mo_reached (Nat.le_of_ble_eq_true rfl) ⟨1, Or.inr (Or.inl ⟨rfl, rfl⟩)⟩ (T_Mo_reached_0 h)
set_option maxRecDepth 20000 in
set_option maxHeartbeats 1000000 in
theorem T_Mo_reached_5 {d : Nat} {kd : ZK} {m : ZM} {q : Int → ZM → Prop} {v0 v1 v2 v3 v4 : Int} (h : (zobj kd v0 8 ∧ ∃ q1, CtI d M_Mo_questions [(2, v0), (0, iw (1 - v1))] kd m q1 ∧ ∀ x2 m3, q1 x2 m3 → ((x2 ≤ v4 → q v3 m3) ∧ (¬ x2 ≤ v4 → (zobj kd v0 8 ∧ ∃ q4, CtV d M_Mo_laysBy [(2, v0), (0, v1), (0, v4)] kd m3 q4 ∧ ∀ m6, q4 m6 → ((v2 = 0 → (zobj kd v0 8 ∧ ∃ q7, CtI d M_Mo_worstBy [(2, v0), (0, v1)] kd m6 q7 ∧ ∀ x8 m9, q7 x8 m9 → (Ev (d + 1) M_Mo_reached 0 0 5 [(2, v0), (0, v1), (0, v2), (0, iw (v3 + x8)), (0, iw (v4 + 1))] [] kd m9 (zqI kd q)))) ∧ (¬ v2 = 0 → (zobj kd v0 8 ∧ ∃ q10, CtI d M_Mo_bestBy [(2, v0), (0, v1)] kd m6 q10 ∧ ∀ x11 m12, q10 x11 m12 → (Ev (d + 1) M_Mo_reached 0 0 5 [(2, v0), (0, v1), (0, v2), (0, iw (v3 + x11)), (0, iw (v4 + 1))] [] kd m12 (zqI kd q)))))))))) : Ev (d + 1) M_Mo_reached 0 0 5 [(2, v0), (0, v1), (0, v2), (0, v3), (0, v4)] [] kd m (zqI kd q) := by
  refine EvX.blk (pc' := 11) [(.iload 4, 0, 0), (.aload_n 0, 0, 0), (.iconst 1, 0, 0), (.iload_n 1, 0, 0), (.isub, 0, 0)] (by decide +kernel) trivial ?_
  show Ev (d + 1) M_Mo_reached 0 0 11 [(2, v0), (0, v1), (0, v2), (0, v3), (0, v4)] [(0, iw (1 - v1)), (2, v0), (0, v4)] kd m (zqI kd q)
  obtain ⟨ov, h⟩ := h
  obtain ⟨q1, hq, h⟩ := h
  refine EvX.callV (c := 8) (mc := 0) (ms := 0) (as := [(0, iw (1 - v1))]) (st := [(0, v4)]) (by decide +kernel) l_Mo_163 k_Mo_questions v_Mo_questions a_Mo_questions (by decide) (Nat.le_of_ble_eq_true rfl) rfl ov hq (fun r kd1 m3 hr => ?_)
  obtain ⟨x2, rfl, hk, hr⟩ := hr
  subst kd1
  have h := h x2 m3 hr
  show Ev (d + 1) M_Mo_reached 0 0 14 [(2, v0), (0, v1), (0, v2), (0, v3), (0, v4)] [(0, x2), (0, v4)] kd m3 (zqI kd q)
  refine EvX.icmp_ge (off := 36) (tgt := 50) (by decide +kernel) (by decide) (fun hc => ?_) (fun hc => ?_)
  · have h := h.1 hc
    refine EvX.blk (pc' := 51) [(.iload_n 3, 0, 0)] (by decide +kernel) trivial ?_
    show Ev (d + 1) M_Mo_reached 0 0 51 [(2, v0), (0, v1), (0, v2), (0, v3), (0, v4)] [(0, v3)] kd m3 (zqI kd q)
    exact EvX.ret (r := (0, v3)) (by decide +kernel) rfl ⟨_, rfl, rfl, h⟩
  · have h := h.2 hc
    refine EvX.blk (pc' := 21) [(.aload_n 0, 0, 0), (.iload_n 1, 0, 0), (.iload 4, 0, 0)] (by decide +kernel) trivial ?_
    show Ev (d + 1) M_Mo_reached 0 0 21 [(2, v0), (0, v1), (0, v2), (0, v3), (0, v4)] [(0, v4), (0, v1), (2, v0)] kd m3 (zqI kd q)
    obtain ⟨ov, h⟩ := h
    obtain ⟨q4, hq, h⟩ := h
    refine EvX.callV (c := 8) (mc := 0) (ms := 0) (as := [(0, v1), (0, v4)]) (st := []) (by decide +kernel) l_Mo_256 k_Mo_laysBy v_Mo_laysBy a_Mo_laysBy (by decide) (Nat.le_of_ble_eq_true rfl) rfl ov hq (fun r kd1 m6 hr => ?_)
    obtain ⟨rfl, hk, hr⟩ := hr
    subst kd1
    have h := h m6 hr
    show Ev (d + 1) M_Mo_reached 0 0 24 [(2, v0), (0, v1), (0, v2), (0, v3), (0, v4)] [] kd m6 (zqI kd q)
    refine EvX.blk (pc' := 26) [(.iload_n 3, 0, 0), (.iload_n 2, 0, 0)] (by decide +kernel) trivial ?_
    show Ev (d + 1) M_Mo_reached 0 0 26 [(2, v0), (0, v1), (0, v2), (0, v3), (0, v4)] [(0, v2), (0, v3)] kd m6 (zqI kd q)
    refine EvX.if_eq (off := 11) (tgt := 37) (by decide +kernel) (by decide) (fun hc => ?_) (fun hc => ?_)
    · have h := h.1 hc
      refine EvX.blk (pc' := 39) [(.aload_n 0, 0, 0), (.iload_n 1, 0, 0)] (by decide +kernel) trivial ?_
      show Ev (d + 1) M_Mo_reached 0 0 39 [(2, v0), (0, v1), (0, v2), (0, v3), (0, v4)] [(0, v1), (2, v0), (0, v3)] kd m6 (zqI kd q)
      obtain ⟨ov, h⟩ := h
      obtain ⟨q7, hq, h⟩ := h
      refine EvX.callV (c := 8) (mc := 0) (ms := 0) (as := [(0, v1)]) (st := [(0, v3)]) (by decide +kernel) l_Mo_262 k_Mo_worstBy v_Mo_worstBy a_Mo_worstBy (by decide) (Nat.le_of_ble_eq_true rfl) rfl ov hq (fun r kd1 m9 hr => ?_)
      obtain ⟨x8, rfl, hk, hr⟩ := hr
      subst kd1
      have h := h x8 m9 hr
      show Ev (d + 1) M_Mo_reached 0 0 42 [(2, v0), (0, v1), (0, v2), (0, v3), (0, v4)] [(0, x8), (0, v3)] kd m9 (zqI kd q)
      refine EvX.blk (pc' := 47) [(.iadd, 0, 0), (.istore_n 3, 0, 0), (.iinc 4 1, 0, 0)] (by decide +kernel) trivial ?_
      show Ev (d + 1) M_Mo_reached 0 0 47 [(2, v0), (0, v1), (0, v2), (0, iw (v3 + x8)), (0, iw (v4 + 1))] [] kd m9 (zqI kd q)
      refine EvX.goto (off := (-42)) (tgt := 5) (by decide +kernel) (by decide) ?_
      exact h
    · have h := h.2 hc
      refine EvX.blk (pc' := 31) [(.aload_n 0, 0, 0), (.iload_n 1, 0, 0)] (by decide +kernel) trivial ?_
      show Ev (d + 1) M_Mo_reached 0 0 31 [(2, v0), (0, v1), (0, v2), (0, v3), (0, v4)] [(0, v1), (2, v0), (0, v3)] kd m6 (zqI kd q)
      obtain ⟨ov, h⟩ := h
      obtain ⟨q10, hq, h⟩ := h
      refine EvX.callV (c := 8) (mc := 0) (ms := 0) (as := [(0, v1)]) (st := [(0, v3)]) (by decide +kernel) l_Mo_259 k_Mo_bestBy v_Mo_bestBy a_Mo_bestBy (by decide) (Nat.le_of_ble_eq_true rfl) rfl ov hq (fun r kd1 m12 hr => ?_)
      obtain ⟨x11, rfl, hk, hr⟩ := hr
      subst kd1
      have h := h x11 m12 hr
      show Ev (d + 1) M_Mo_reached 0 0 34 [(2, v0), (0, v1), (0, v2), (0, v3), (0, v4)] [(0, x11), (0, v3)] kd m12 (zqI kd q)
      refine EvX.goto (off := 8) (tgt := 42) (by decide +kernel) (by decide) ?_
      refine EvX.blk (pc' := 47) [(.iadd, 0, 0), (.istore_n 3, 0, 0), (.iinc 4 1, 0, 0)] (by decide +kernel) trivial ?_
      show Ev (d + 1) M_Mo_reached 0 0 47 [(2, v0), (0, v1), (0, v2), (0, iw (v3 + x11)), (0, iw (v4 + 1))] [] kd m12 (zqI kd q)
      refine EvX.goto (off := (-42)) (tgt := 5) (by decide +kernel) (by decide) ?_
      exact h
set_option maxRecDepth 20000 in
set_option maxHeartbeats 1000000 in
theorem T_Mo_mostWorth_0 {d : Nat} {kd : ZK} {m : ZM} {q : Int → ZM → Prop} {v0 : Int} (h : (zobj kd v0 8 ∧ ∃ q1, CtV d M_Mo_laysFirst [(2, v0), (0, 0)] kd m q1 ∧ ∀ m3, q1 m3 → (Ev (d + 1) M_Mo_mostWorth 0 0 9 [(2, v0), (0, 0), (0, 1)] [] kd m3 (zqI kd q)))) : Ev (d + 1) M_Mo_mostWorth 0 0 0 [(2, v0), zJ, zJ] [] kd m (zqI kd q) := by
  refine EvX.blk (pc' := 4) [(.iconst 0, 0, 0), (.istore_n 1, 0, 0), (.aload_n 0, 0, 0), (.iconst 0, 0, 0)] (by decide +kernel) trivial ?_
  show Ev (d + 1) M_Mo_mostWorth 0 0 4 [(2, v0), (0, 0), zJ] [(0, 0), (2, v0)] kd m (zqI kd q)
  obtain ⟨ov, h⟩ := h
  obtain ⟨q1, hq, h⟩ := h
  refine EvX.callV (c := 8) (mc := 0) (ms := 0) (as := [(0, 0)]) (st := []) (by decide +kernel) l_Mo_265 k_Mo_laysFirst v_Mo_laysFirst a_Mo_laysFirst (by decide) (Nat.le_of_ble_eq_true rfl) rfl ov hq (fun r kd1 m3 hr => ?_)
  obtain ⟨rfl, hk, hr⟩ := hr
  subst kd1
  have h := h m3 hr
  show Ev (d + 1) M_Mo_mostWorth 0 0 7 [(2, v0), (0, 0), zJ] [] kd m3 (zqI kd q)
  refine EvX.blk (pc' := 9) [(.iconst 1, 0, 0), (.istore_n 2, 0, 0)] (by decide +kernel) trivial ?_
  show Ev (d + 1) M_Mo_mostWorth 0 0 9 [(2, v0), (0, 0), (0, 1)] [] kd m3 (zqI kd q)
  exact h
theorem S_Mo_mostWorth {d : Nat} {kd : ZK} {m : ZM} {q : Int → ZM → Prop} {v0 : Int} (h : (zobj kd v0 8 ∧ ∃ q1, CtV d M_Mo_laysFirst [(2, v0), (0, 0)] kd m q1 ∧ ∀ m3, q1 m3 → (Ev (d + 1) M_Mo_mostWorth 0 0 9 [(2, v0), (0, 0), (0, 1)] [] kd m3 (zqI kd q)))) : CtI (d + 1) M_Mo_mostWorth [(2, v0)] kd m q :=
  Ct.start k_Mo_mostWorth (Nat.le_of_ble_eq_true rfl) ⟨1, Or.inr (Or.inl ⟨rfl, rfl⟩)⟩ (T_Mo_mostWorth_0 h)
set_option maxRecDepth 20000 in
set_option maxHeartbeats 1000000 in
theorem T_Mo_mostWorth_9 {d : Nat} {kd : ZK} {m : ZM} {q : Int → ZM → Prop} {v0 v1 v2 : Int} (h : ((v2 = 0 → q v1 m) ∧ (¬ v2 = 0 → (zobj kd v0 8 ∧ ∃ q1, CtI d M_Mo_reached [(2, v0), (0, 0), (0, 1)] kd m q1 ∧ ∀ x2 m3, q1 x2 m3 → (zobj kd v0 8 ∧ ∃ q4, CtI d M_Mo_goesOn [(2, v0), (0, 0)] kd m3 q4 ∧ ∀ x5 m6, q4 x5 m6 → (Ev (d + 1) M_Mo_mostWorth 0 0 9 [(2, v0), (0, zmax v1 x2), (0, x5)] [] kd m6 (zqI kd q))))))) : Ev (d + 1) M_Mo_mostWorth 0 0 9 [(2, v0), (0, v1), (0, v2)] [] kd m (zqI kd q) := by
  refine EvX.blk (pc' := 10) [(.iload_n 2, 0, 0)] (by decide +kernel) trivial ?_
  show Ev (d + 1) M_Mo_mostWorth 0 0 10 [(2, v0), (0, v1), (0, v2)] [(0, v2)] kd m (zqI kd q)
  refine EvX.if_eq (off := 23) (tgt := 33) (by decide +kernel) (by decide) (fun hc => ?_) (fun hc => ?_)
  · have h := h.1 hc
    refine EvX.blk (pc' := 34) [(.iload_n 1, 0, 0)] (by decide +kernel) trivial ?_
    show Ev (d + 1) M_Mo_mostWorth 0 0 34 [(2, v0), (0, v1), (0, v2)] [(0, v1)] kd m (zqI kd q)
    exact EvX.ret (r := (0, v1)) (by decide +kernel) rfl ⟨_, rfl, rfl, h⟩
  · have h := h.2 hc
    refine EvX.blk (pc' := 17) [(.iload_n 1, 0, 0), (.aload_n 0, 0, 0), (.iconst 0, 0, 0), (.iconst 1, 0, 0)] (by decide +kernel) trivial ?_
    show Ev (d + 1) M_Mo_mostWorth 0 0 17 [(2, v0), (0, v1), (0, v2)] [(0, 1), (0, 0), (2, v0), (0, v1)] kd m (zqI kd q)
    obtain ⟨ov, h⟩ := h
    obtain ⟨q1, hq, h⟩ := h
    refine EvX.callV (c := 8) (mc := 0) (ms := 0) (as := [(0, 0), (0, 1)]) (st := [(0, v1)]) (by decide +kernel) l_Mo_268 k_Mo_reached v_Mo_reached a_Mo_reached (by decide) (Nat.le_of_ble_eq_true rfl) rfl ov hq (fun r kd1 m3 hr => ?_)
    obtain ⟨x2, rfl, hk, hr⟩ := hr
    subst kd1
    have h := h x2 m3 hr
    show Ev (d + 1) M_Mo_mostWorth 0 0 20 [(2, v0), (0, v1), (0, v2)] [(0, x2), (0, v1)] kd m3 (zqI kd q)
    refine EvX.mmax' (by decide +kernel) y_Mo_253 (Nat.le_of_ble_eq_true rfl) ?_
    show Ev (d + 1) M_Mo_mostWorth 0 0 23 [(2, v0), (0, v1), (0, v2)] [(0, zmax v1 x2)] kd m3 (zqI kd q)
    refine EvX.blk (pc' := 26) [(.istore_n 1, 0, 0), (.aload_n 0, 0, 0), (.iconst 0, 0, 0)] (by decide +kernel) trivial ?_
    show Ev (d + 1) M_Mo_mostWorth 0 0 26 [(2, v0), (0, zmax v1 x2), (0, v2)] [(0, 0), (2, v0)] kd m3 (zqI kd q)
    obtain ⟨ov, h⟩ := h
    obtain ⟨q4, hq, h⟩ := h
    refine EvX.callV (c := 8) (mc := 0) (ms := 0) (as := [(0, 0)]) (st := []) (by decide +kernel) l_Mo_272 k_Mo_goesOn v_Mo_goesOn a_Mo_goesOn (by decide) (Nat.le_of_ble_eq_true rfl) rfl ov hq (fun r kd1 m6 hr => ?_)
    obtain ⟨x5, rfl, hk, hr⟩ := hr
    subst kd1
    have h := h x5 m6 hr
    show Ev (d + 1) M_Mo_mostWorth 0 0 29 [(2, v0), (0, zmax v1 x2), (0, v2)] [(0, x5)] kd m6 (zqI kd q)
    refine EvX.blk (pc' := 30) [(.istore_n 2, 0, 0)] (by decide +kernel) trivial ?_
    show Ev (d + 1) M_Mo_mostWorth 0 0 30 [(2, v0), (0, zmax v1 x2), (0, x5)] [] kd m6 (zqI kd q)
    refine EvX.goto (off := (-21)) (tgt := 9) (by decide +kernel) (by decide) ?_
    exact h
set_option maxRecDepth 20000 in
set_option maxHeartbeats 1000000 in
theorem T_Mo_leastWorth_0 {d : Nat} {kd : ZK} {m : ZM} {q : Int → ZM → Prop} {v0 : Int} (h : (zobj kd v0 8 ∧ ∃ q1, CtV d M_Mo_laysFirst [(2, v0), (0, 0)] kd m q1 ∧ ∀ m3, q1 m3 → (zobj kd v0 8 ∧ ∃ q4, CtI d M_Mo_reached [(2, v0), (0, 0), (0, 0)] kd m3 q4 ∧ ∀ x5 m6, q4 x5 m6 → (Ev (d + 1) M_Mo_leastWorth 0 0 12 [(2, v0), (0, x5)] [] kd m6 (zqI kd q))))) : Ev (d + 1) M_Mo_leastWorth 0 0 0 [(2, v0), zJ] [] kd m (zqI kd q) := by
  refine EvX.blk (pc' := 2) [(.aload_n 0, 0, 0), (.iconst 0, 0, 0)] (by decide +kernel) trivial ?_
  show Ev (d + 1) M_Mo_leastWorth 0 0 2 [(2, v0), zJ] [(0, 0), (2, v0)] kd m (zqI kd q)
  obtain ⟨ov, h⟩ := h
  obtain ⟨q1, hq, h⟩ := h
  refine EvX.callV (c := 8) (mc := 0) (ms := 0) (as := [(0, 0)]) (st := []) (by decide +kernel) l_Mo_265 k_Mo_laysFirst v_Mo_laysFirst a_Mo_laysFirst (by decide) (Nat.le_of_ble_eq_true rfl) rfl ov hq (fun r kd1 m3 hr => ?_)
  obtain ⟨rfl, hk, hr⟩ := hr
  subst kd1
  have h := h m3 hr
  show Ev (d + 1) M_Mo_leastWorth 0 0 5 [(2, v0), zJ] [] kd m3 (zqI kd q)
  refine EvX.blk (pc' := 8) [(.aload_n 0, 0, 0), (.iconst 0, 0, 0), (.iconst 0, 0, 0)] (by decide +kernel) trivial ?_
  show Ev (d + 1) M_Mo_leastWorth 0 0 8 [(2, v0), zJ] [(0, 0), (0, 0), (2, v0)] kd m3 (zqI kd q)
  obtain ⟨ov, h⟩ := h
  obtain ⟨q4, hq, h⟩ := h
  refine EvX.callV (c := 8) (mc := 0) (ms := 0) (as := [(0, 0), (0, 0)]) (st := []) (by decide +kernel) l_Mo_268 k_Mo_reached v_Mo_reached a_Mo_reached (by decide) (Nat.le_of_ble_eq_true rfl) rfl ov hq (fun r kd1 m6 hr => ?_)
  obtain ⟨x5, rfl, hk, hr⟩ := hr
  subst kd1
  have h := h x5 m6 hr
  show Ev (d + 1) M_Mo_leastWorth 0 0 11 [(2, v0), zJ] [(0, x5)] kd m6 (zqI kd q)
  refine EvX.blk (pc' := 12) [(.istore_n 1, 0, 0)] (by decide +kernel) trivial ?_
  show Ev (d + 1) M_Mo_leastWorth 0 0 12 [(2, v0), (0, x5)] [] kd m6 (zqI kd q)
  exact h
theorem S_Mo_leastWorth {d : Nat} {kd : ZK} {m : ZM} {q : Int → ZM → Prop} {v0 : Int} (h : (zobj kd v0 8 ∧ ∃ q1, CtV d M_Mo_laysFirst [(2, v0), (0, 0)] kd m q1 ∧ ∀ m3, q1 m3 → (zobj kd v0 8 ∧ ∃ q4, CtI d M_Mo_reached [(2, v0), (0, 0), (0, 0)] kd m3 q4 ∧ ∀ x5 m6, q4 x5 m6 → (Ev (d + 1) M_Mo_leastWorth 0 0 12 [(2, v0), (0, x5)] [] kd m6 (zqI kd q))))) : CtI (d + 1) M_Mo_leastWorth [(2, v0)] kd m q :=
  Ct.start k_Mo_leastWorth (Nat.le_of_ble_eq_true rfl) ⟨1, Or.inr (Or.inl ⟨rfl, rfl⟩)⟩ (T_Mo_leastWorth_0 h)
set_option maxRecDepth 20000 in
set_option maxHeartbeats 1000000 in
theorem T_Mo_leastWorth_12 {d : Nat} {kd : ZK} {m : ZM} {q : Int → ZM → Prop} {v0 v1 : Int} (h : (zobj kd v0 8 ∧ ∃ q1, CtI d M_Mo_goesOn [(2, v0), (0, 0)] kd m q1 ∧ ∀ x2 m3, q1 x2 m3 → ((x2 = 0 → q v1 m3) ∧ (¬ x2 = 0 → (zobj kd v0 8 ∧ ∃ q4, CtI d M_Mo_reached [(2, v0), (0, 0), (0, 0)] kd m3 q4 ∧ ∀ x5 m6, q4 x5 m6 → (Ev (d + 1) M_Mo_leastWorth 0 0 12 [(2, v0), (0, zmin v1 x5)] [] kd m6 (zqI kd q))))))) : Ev (d + 1) M_Mo_leastWorth 0 0 12 [(2, v0), (0, v1)] [] kd m (zqI kd q) := by
  refine EvX.blk (pc' := 14) [(.aload_n 0, 0, 0), (.iconst 0, 0, 0)] (by decide +kernel) trivial ?_
  show Ev (d + 1) M_Mo_leastWorth 0 0 14 [(2, v0), (0, v1)] [(0, 0), (2, v0)] kd m (zqI kd q)
  obtain ⟨ov, h⟩ := h
  obtain ⟨q1, hq, h⟩ := h
  refine EvX.callV (c := 8) (mc := 0) (ms := 0) (as := [(0, 0)]) (st := []) (by decide +kernel) l_Mo_272 k_Mo_goesOn v_Mo_goesOn a_Mo_goesOn (by decide) (Nat.le_of_ble_eq_true rfl) rfl ov hq (fun r kd1 m3 hr => ?_)
  obtain ⟨x2, rfl, hk, hr⟩ := hr
  subst kd1
  have h := h x2 m3 hr
  show Ev (d + 1) M_Mo_leastWorth 0 0 17 [(2, v0), (0, v1)] [(0, x2)] kd m3 (zqI kd q)
  refine EvX.if_eq (off := 17) (tgt := 34) (by decide +kernel) (by decide) (fun hc => ?_) (fun hc => ?_)
  · have h := h.1 hc
    refine EvX.blk (pc' := 35) [(.iload_n 1, 0, 0)] (by decide +kernel) trivial ?_
    show Ev (d + 1) M_Mo_leastWorth 0 0 35 [(2, v0), (0, v1)] [(0, v1)] kd m3 (zqI kd q)
    exact EvX.ret (r := (0, v1)) (by decide +kernel) rfl ⟨_, rfl, rfl, h⟩
  · have h := h.2 hc
    refine EvX.blk (pc' := 24) [(.iload_n 1, 0, 0), (.aload_n 0, 0, 0), (.iconst 0, 0, 0), (.iconst 0, 0, 0)] (by decide +kernel) trivial ?_
    show Ev (d + 1) M_Mo_leastWorth 0 0 24 [(2, v0), (0, v1)] [(0, 0), (0, 0), (2, v0), (0, v1)] kd m3 (zqI kd q)
    obtain ⟨ov, h⟩ := h
    obtain ⟨q4, hq, h⟩ := h
    refine EvX.callV (c := 8) (mc := 0) (ms := 0) (as := [(0, 0), (0, 0)]) (st := [(0, v1)]) (by decide +kernel) l_Mo_268 k_Mo_reached v_Mo_reached a_Mo_reached (by decide) (Nat.le_of_ble_eq_true rfl) rfl ov hq (fun r kd1 m6 hr => ?_)
    obtain ⟨x5, rfl, hk, hr⟩ := hr
    subst kd1
    have h := h x5 m6 hr
    show Ev (d + 1) M_Mo_leastWorth 0 0 27 [(2, v0), (0, v1)] [(0, x5), (0, v1)] kd m6 (zqI kd q)
    refine EvX.mmin' (by decide +kernel) y_Mo_117 (Nat.le_of_ble_eq_true rfl) ?_
    show Ev (d + 1) M_Mo_leastWorth 0 0 30 [(2, v0), (0, v1)] [(0, zmin v1 x5)] kd m6 (zqI kd q)
    refine EvX.blk (pc' := 31) [(.istore_n 1, 0, 0)] (by decide +kernel) trivial ?_
    show Ev (d + 1) M_Mo_leastWorth 0 0 31 [(2, v0), (0, zmin v1 x5)] [] kd m6 (zqI kd q)
    refine EvX.goto (off := (-19)) (tgt := 12) (by decide +kernel) (by decide) ?_
    exact h
set_option maxRecDepth 20000 in
set_option maxHeartbeats 1000000 in
theorem T_Mo_sureOf_0 {d : Nat} {kd : ZK} {m : ZM} {q : Int → ZM → Prop} {v0 v1 : Int} (h : (zobj kd v0 8 ∧ ∃ q1, CtV d M_Mo_laysFirst [(2, v0), (0, v1)] kd m q1 ∧ ∀ m3, q1 m3 → (zobj kd v0 8 ∧ ∃ q4, CtI d M_Mo_reached [(2, v0), (0, v1), (0, 0)] kd m3 q4 ∧ ∀ x5 m6, q4 x5 m6 → (zobj kd v0 8 ∧ (Ev (d + 1) M_Mo_sureOf 0 0 17 [(2, v0), (0, v1), (0, x5), zJ] [] kd (zup m6 v0 16 0) (zqI kd q)))))) : Ev (d + 1) M_Mo_sureOf 0 0 0 [(2, v0), (0, v1), zJ, zJ] [] kd m (zqI kd q) := by
  refine EvX.blk (pc' := 2) [(.aload_n 0, 0, 0), (.iload_n 1, 0, 0)] (by decide +kernel) trivial ?_
  show Ev (d + 1) M_Mo_sureOf 0 0 2 [(2, v0), (0, v1), zJ, zJ] [(0, v1), (2, v0)] kd m (zqI kd q)
  obtain ⟨ov, h⟩ := h
  obtain ⟨q1, hq, h⟩ := h
  refine EvX.callV (c := 8) (mc := 0) (ms := 0) (as := [(0, v1)]) (st := []) (by decide +kernel) l_Mo_265 k_Mo_laysFirst v_Mo_laysFirst a_Mo_laysFirst (by decide) (Nat.le_of_ble_eq_true rfl) rfl ov hq (fun r kd1 m3 hr => ?_)
  obtain ⟨rfl, hk, hr⟩ := hr
  subst kd1
  have h := h m3 hr
  show Ev (d + 1) M_Mo_sureOf 0 0 5 [(2, v0), (0, v1), zJ, zJ] [] kd m3 (zqI kd q)
  refine EvX.blk (pc' := 8) [(.aload_n 0, 0, 0), (.iload_n 1, 0, 0), (.iconst 0, 0, 0)] (by decide +kernel) trivial ?_
  show Ev (d + 1) M_Mo_sureOf 0 0 8 [(2, v0), (0, v1), zJ, zJ] [(0, 0), (0, v1), (2, v0)] kd m3 (zqI kd q)
  obtain ⟨ov, h⟩ := h
  obtain ⟨q4, hq, h⟩ := h
  refine EvX.callV (c := 8) (mc := 0) (ms := 0) (as := [(0, v1), (0, 0)]) (st := []) (by decide +kernel) l_Mo_268 k_Mo_reached v_Mo_reached a_Mo_reached (by decide) (Nat.le_of_ble_eq_true rfl) rfl ov hq (fun r kd1 m6 hr => ?_)
  obtain ⟨x5, rfl, hk, hr⟩ := hr
  subst kd1
  have h := h x5 m6 hr
  show Ev (d + 1) M_Mo_sureOf 0 0 11 [(2, v0), (0, v1), zJ, zJ] [(0, x5)] kd m6 (zqI kd q)
  obtain ⟨o1, h⟩ := h
  refine EvX.blk (pc' := 17) [(.istore_n 2, 0, 0), (.aload_n 0, 0, 0), (.iconst 0, 0, 0), (.putfield 275, 8, 16)] (by decide +kernel) ⟨⟨g_Mo_275, p_Mo_275⟩, trivial⟩ ⟨rfl, o1, ?_⟩
  show Ev (d + 1) M_Mo_sureOf 0 0 17 [(2, v0), (0, v1), (0, x5), zJ] [] kd (zup m6 v0 16 0) (zqI kd q)
  exact h
theorem S_Mo_sureOf {d : Nat} {kd : ZK} {m : ZM} {q : Int → ZM → Prop} {v0 v1 : Int} (h : (zobj kd v0 8 ∧ ∃ q1, CtV d M_Mo_laysFirst [(2, v0), (0, v1)] kd m q1 ∧ ∀ m3, q1 m3 → (zobj kd v0 8 ∧ ∃ q4, CtI d M_Mo_reached [(2, v0), (0, v1), (0, 0)] kd m3 q4 ∧ ∀ x5 m6, q4 x5 m6 → (zobj kd v0 8 ∧ (Ev (d + 1) M_Mo_sureOf 0 0 17 [(2, v0), (0, v1), (0, x5), zJ] [] kd (zup m6 v0 16 0) (zqI kd q)))))) : CtI (d + 1) M_Mo_sureOf [(2, v0), (0, v1)] kd m q :=
  Ct.start k_Mo_sureOf (Nat.le_of_ble_eq_true rfl) ⟨1, Or.inr (Or.inl ⟨rfl, rfl⟩)⟩ (T_Mo_sureOf_0 h)
set_option maxRecDepth 20000 in
set_option maxHeartbeats 1000000 in
theorem T_Mo_sureOf_17 {d : Nat} {kd : ZK} {m : ZM} {q : Int → ZM → Prop} {v0 v1 v2 : Int} (h : (zobj kd v0 8 ∧ ∃ q1, CtI d M_Mo_goesOn [(2, v0), (0, v1)] kd m q1 ∧ ∀ x2 m3, q1 x2 m3 → ((x2 = 0 → q v2 m3) ∧ (¬ x2 = 0 → (zobj kd v0 8 ∧ ∃ q4, CtI d M_Mo_reached [(2, v0), (0, v1), (0, 0)] kd m3 q4 ∧ ∀ x5 m6, q4 x5 m6 → ((x5 ≤ v2 → (Ev (d + 1) M_Mo_sureOf 0 0 17 [(2, v0), (0, v1), (0, v2), zJ] [] kd m6 (zqI kd q))) ∧ (¬ x5 ≤ v2 → (zobj kd v0 8 ∧ ∃ q7, CtI d M_Mo_toldOf [(2, v0), (0, v1)] kd m6 q7 ∧ ∀ x8 m9, q7 x8 m9 → (zobj kd v0 8 ∧ (Ev (d + 1) M_Mo_sureOf 0 0 17 [(2, v0), (0, v1), (0, x5), zJ] [] kd (zup m9 v0 16 x8) (zqI kd q))))))))))) : Ev (d + 1) M_Mo_sureOf 0 0 17 [(2, v0), (0, v1), (0, v2), zJ] [] kd m (zqI kd q) := by
  refine EvX.blk (pc' := 19) [(.aload_n 0, 0, 0), (.iload_n 1, 0, 0)] (by decide +kernel) trivial ?_
  show Ev (d + 1) M_Mo_sureOf 0 0 19 [(2, v0), (0, v1), (0, v2), zJ] [(0, v1), (2, v0)] kd m (zqI kd q)
  obtain ⟨ov, h⟩ := h
  obtain ⟨q1, hq, h⟩ := h
  refine EvX.callV (c := 8) (mc := 0) (ms := 0) (as := [(0, v1)]) (st := []) (by decide +kernel) l_Mo_272 k_Mo_goesOn v_Mo_goesOn a_Mo_goesOn (by decide) (Nat.le_of_ble_eq_true rfl) rfl ov hq (fun r kd1 m3 hr => ?_)
  obtain ⟨x2, rfl, hk, hr⟩ := hr
  subst kd1
  have h := h x2 m3 hr
  show Ev (d + 1) M_Mo_sureOf 0 0 22 [(2, v0), (0, v1), (0, v2), zJ] [(0, x2)] kd m3 (zqI kd q)
  refine EvX.if_eq (off := 29) (tgt := 51) (by decide +kernel) (by decide) (fun hc => ?_) (fun hc => ?_)
  · have h := h.1 hc
    refine EvX.blk (pc' := 52) [(.iload_n 2, 0, 0)] (by decide +kernel) trivial ?_
    show Ev (d + 1) M_Mo_sureOf 0 0 52 [(2, v0), (0, v1), (0, v2), zJ] [(0, v2)] kd m3 (zqI kd q)
    exact EvX.ret (r := (0, v2)) (by decide +kernel) rfl ⟨_, rfl, rfl, h⟩
  · have h := h.2 hc
    refine EvX.blk (pc' := 28) [(.aload_n 0, 0, 0), (.iload_n 1, 0, 0), (.iconst 0, 0, 0)] (by decide +kernel) trivial ?_
    show Ev (d + 1) M_Mo_sureOf 0 0 28 [(2, v0), (0, v1), (0, v2), zJ] [(0, 0), (0, v1), (2, v0)] kd m3 (zqI kd q)
    obtain ⟨ov, h⟩ := h
    obtain ⟨q4, hq, h⟩ := h
    refine EvX.callV (c := 8) (mc := 0) (ms := 0) (as := [(0, v1), (0, 0)]) (st := []) (by decide +kernel) l_Mo_268 k_Mo_reached v_Mo_reached a_Mo_reached (by decide) (Nat.le_of_ble_eq_true rfl) rfl ov hq (fun r kd1 m6 hr => ?_)
    obtain ⟨x5, rfl, hk, hr⟩ := hr
    subst kd1
    have h := h x5 m6 hr
    show Ev (d + 1) M_Mo_sureOf 0 0 31 [(2, v0), (0, v1), (0, v2), zJ] [(0, x5)] kd m6 (zqI kd q)
    refine EvX.blk (pc' := 34) [(.istore_n 3, 0, 0), (.iload_n 3, 0, 0), (.iload_n 2, 0, 0)] (by decide +kernel) trivial ?_
    show Ev (d + 1) M_Mo_sureOf 0 0 34 [(2, v0), (0, v1), (0, v2), (0, x5)] [(0, v2), (0, x5)] kd m6 (zqI kd q)
    refine EvX.icmp_le (off := 14) (tgt := 48) (by decide +kernel) (by decide) (fun hc => ?_) (fun hc => ?_)
    · have h := h.1 hc
      refine EvX.goto (off := (-31)) (tgt := 17) (by decide +kernel) (by decide) ?_
      exact EvX.weak (ls2 := [(2, v0), (0, v1), (0, v2), zJ]) (zwk_of ⟨Or.inr rfl, Or.inr rfl, Or.inr rfl, Or.inl rfl, trivial⟩) h
    · have h := h.2 hc
      refine EvX.blk (pc' := 42) [(.iload_n 3, 0, 0), (.istore_n 2, 0, 0), (.aload_n 0, 0, 0), (.aload_n 0, 0, 0), (.iload_n 1, 0, 0)] (by decide +kernel) trivial ?_
      show Ev (d + 1) M_Mo_sureOf 0 0 42 [(2, v0), (0, v1), (0, x5), (0, x5)] [(0, v1), (2, v0), (2, v0)] kd m6 (zqI kd q)
      obtain ⟨ov, h⟩ := h
      obtain ⟨q7, hq, h⟩ := h
      refine EvX.callV (c := 8) (mc := 0) (ms := 0) (as := [(0, v1)]) (st := [(2, v0)]) (by decide +kernel) l_Mo_278 k_Mo_toldOf v_Mo_toldOf a_Mo_toldOf (by decide) (Nat.le_of_ble_eq_true rfl) rfl ov hq (fun r kd1 m9 hr => ?_)
      obtain ⟨x8, rfl, hk, hr⟩ := hr
      subst kd1
      have h := h x8 m9 hr
      show Ev (d + 1) M_Mo_sureOf 0 0 45 [(2, v0), (0, v1), (0, x5), (0, x5)] [(0, x8), (2, v0)] kd m9 (zqI kd q)
      obtain ⟨o1, h⟩ := h
      refine EvX.blk (pc' := 48) [(.putfield 275, 8, 16)] (by decide +kernel) ⟨⟨g_Mo_275, p_Mo_275⟩, trivial⟩ ⟨rfl, o1, ?_⟩
      show Ev (d + 1) M_Mo_sureOf 0 0 48 [(2, v0), (0, v1), (0, x5), (0, x5)] [] kd (zup m9 v0 16 x8) (zqI kd q)
      refine EvX.goto (off := (-31)) (tgt := 17) (by decide +kernel) (by decide) ?_
      exact EvX.weak (ls2 := [(2, v0), (0, v1), (0, x5), zJ]) (zwk_of ⟨Or.inr rfl, Or.inr rfl, Or.inr rfl, Or.inl rfl, trivial⟩) h
set_option maxRecDepth 20000 in
set_option maxHeartbeats 1000000 in
theorem T_Mo_allWeights_0 {d : Nat} {kd : ZK} {m : ZM} {q : Int → ZM → Prop} {v0 : Int} (h : (Ev (d + 1) M_Mo_allWeights 0 0 4 [(2, v0), (0, 0), (0, 4)] [] kd m (zqI kd q))) : Ev (d + 1) M_Mo_allWeights 0 0 0 [(2, v0), zJ, zJ] [] kd m (zqI kd q) := by
  refine EvX.blk (pc' := 4) [(.iconst 0, 0, 0), (.istore_n 1, 0, 0), (.iconst 4, 0, 0), (.istore_n 2, 0, 0)] (by decide +kernel) trivial ?_
  show Ev (d + 1) M_Mo_allWeights 0 0 4 [(2, v0), (0, 0), (0, 4)] [] kd m (zqI kd q)
  exact h
theorem S_Mo_allWeights {d : Nat} {kd : ZK} {m : ZM} {q : Int → ZM → Prop} {v0 : Int} (h : (Ev (d + 1) M_Mo_allWeights 0 0 4 [(2, v0), (0, 0), (0, 4)] [] kd m (zqI kd q))) : CtI (d + 1) M_Mo_allWeights [(2, v0)] kd m q :=
  Ct.start k_Mo_allWeights (Nat.le_of_ble_eq_true rfl) ⟨1, Or.inr (Or.inl ⟨rfl, rfl⟩)⟩ (T_Mo_allWeights_0 h)
set_option maxRecDepth 20000 in
set_option maxHeartbeats 1000000 in
theorem T_Mo_allWeights_4 {d : Nat} {kd : ZK} {m : ZM} {q : Int → ZM → Prop} {v0 v1 v2 : Int} (h : ((29 ≤ v2 → q v1 m) ∧ (¬ 29 ≤ v2 → (zobj kd v0 8 ∧ zIn kd (m v0 0) 0 v2 ∧ (Ev (d + 1) M_Mo_allWeights 0 0 4 [(2, v0), (0, iw (v1 + (m (m v0 0) v2))), (0, iw (v2 + 1))] [] kd m (zqI kd q)))))) : Ev (d + 1) M_Mo_allWeights 0 0 4 [(2, v0), (0, v1), (0, v2)] [] kd m (zqI kd q) := by
  refine EvX.blk (pc' := 7) [(.iload_n 2, 0, 0), (.bipush 29, 0, 0)] (by decide +kernel) trivial ?_
  show Ev (d + 1) M_Mo_allWeights 0 0 7 [(2, v0), (0, v1), (0, v2)] [(0, 29), (0, v2)] kd m (zqI kd q)
  refine EvX.icmp_ge (off := 18) (tgt := 25) (by decide +kernel) (by decide) (fun hc => ?_) (fun hc => ?_)
  · have h := h.1 hc
    refine EvX.blk (pc' := 26) [(.iload_n 1, 0, 0)] (by decide +kernel) trivial ?_
    show Ev (d + 1) M_Mo_allWeights 0 0 26 [(2, v0), (0, v1), (0, v2)] [(0, v1)] kd m (zqI kd q)
    exact EvX.ret (r := (0, v1)) (by decide +kernel) rfl ⟨_, rfl, rfl, h⟩
  · have h := h.2 hc
    obtain ⟨o1, o2, h⟩ := h
    refine EvX.blk (pc' := 22) [(.iload_n 1, 0, 0), (.aload_n 0, 0, 0), (.getfield 9, 8, 0), (.iload_n 2, 0, 0), (.iaload, 0, 0), (.iadd, 0, 0), (.istore_n 1, 0, 0), (.iinc 2 1, 0, 0)] (by decide +kernel) ⟨g_Mo_9, trivial⟩ ⟨o1, o2, ?_⟩
    show Ev (d + 1) M_Mo_allWeights 0 0 22 [(2, v0), (0, iw (v1 + (m (m v0 0) v2))), (0, iw (v2 + 1))] [] kd m (zqI kd q)
    refine EvX.goto (off := (-18)) (tgt := 4) (by decide +kernel) (by decide) ?_
    exact h
set_option maxRecDepth 20000 in
set_option maxHeartbeats 1000000 in
theorem T_Mo_worth_0 {d : Nat} {kd : ZK} {m : ZM} {q : Int → ZM → Prop} {v0 v1 : Int} (h : (zobj kd v0 8 ∧ ∃ q1, CtI d M_Mo_hasGame [(2, v0)] kd m q1 ∧ ∀ x2 m3, q1 x2 m3 → ((x2 ≠ 0 → (((v1 < 0 ∨ 4 < v1) → q (-1) m3) ∧ (v1 = 0 → (zobj kd v0 8 ∧ ∃ q4, CtI d M_Mo_mostWorth [(2, v0)] kd m3 q4 ∧ ∀ x5 m6, q4 x5 m6 → q x5 m6)) ∧ (v1 = 1 → (zobj kd v0 8 ∧ ∃ q7, CtI d M_Mo_allWeights [(2, v0)] kd m3 q7 ∧ ∀ x8 m9, q7 x8 m9 → q x8 m9)) ∧ (v1 = 2 → (zobj kd v0 8 ∧ ∃ q10, CtI d M_Mo_leastWorth [(2, v0)] kd m3 q10 ∧ ∀ x11 m12, q10 x11 m12 → q x11 m12)) ∧ (v1 = 3 → (zobj kd v0 8 ∧ ∃ q13, CtI d M_Mo_sureOf [(2, v0), (0, 0)] kd m3 q13 ∧ ∀ x14 m15, q13 x14 m15 → q x14 m15)) ∧ (v1 = 4 → (zobj kd v0 8 ∧ ∃ q16, CtI d M_Mo_sureOf [(2, v0), (0, 1)] kd m3 q16 ∧ ∀ x17 m18, q16 x17 m18 → q x17 m18)))) ∧ (¬ x2 ≠ 0 → q (-1) m3)))) : Ev (d + 1) M_Mo_worth 0 0 0 [(2, v0), (0, v1)] [] kd m (zqI kd q) := by
  refine EvX.blk (pc' := 1) [(.aload_n 0, 0, 0)] (by decide +kernel) trivial ?_
  show Ev (d + 1) M_Mo_worth 0 0 1 [(2, v0), (0, v1)] [(2, v0)] kd m (zqI kd q)
  obtain ⟨ov, h⟩ := h
  obtain ⟨q1, hq, h⟩ := h
  refine EvX.callV (c := 8) (mc := 0) (ms := 0) (as := []) (st := []) (by decide +kernel) l_Mo_215 k_Mo_hasGame v_Mo_hasGame a_Mo_hasGame (by decide) (Nat.le_of_ble_eq_true rfl) rfl ov hq (fun r kd1 m3 hr => ?_)
  obtain ⟨x2, rfl, hk, hr⟩ := hr
  subst kd1
  have h := h x2 m3 hr
  show Ev (d + 1) M_Mo_worth 0 0 4 [(2, v0), (0, v1)] [(0, x2)] kd m3 (zqI kd q)
  refine EvX.if_ne (off := 5) (tgt := 9) (by decide +kernel) (by decide) (fun hc => ?_) (fun hc => ?_)
  · have h := h.1 hc
    refine EvX.blk (pc' := 10) [(.iload_n 1, 0, 0)] (by decide +kernel) trivial ?_
    show Ev (d + 1) M_Mo_worth 0 0 10 [(2, v0), (0, v1)] [(0, v1)] kd m3 (zqI kd q)
    refine EvX.tsw (dflt := 61) (lo := 0) (hi := 4) (offs := #[34, 39, 44, 49, 55]) (len := 34) (n := 5) (df := 71) (tgt := fun k => match k with | 0 => 44 | 1 => 49 | 2 => 54 | 3 => 59 | 4 => 65 | _ => 71) (by decide +kernel) (by decide) (by decide) (by decide) (fun hc => ?_) (fun hc => ?_)
    · have h := h.1 hc
      refine EvX.blk (pc' := 72) [(.iconst (-1), 0, 0)] (by decide +kernel) trivial ?_
      show Ev (d + 1) M_Mo_worth 0 0 72 [(2, v0), (0, v1)] [(0, (-1))] kd m3 (zqI kd q)
      exact EvX.ret (r := (0, (-1))) (by decide +kernel) rfl ⟨_, rfl, rfl, h⟩
    · have h := h.2
      rcases (show v1 = 0 ∨ v1 = 1 ∨ v1 = 2 ∨ v1 = 3 ∨ v1 = 4 by omega) with hk | hk | hk | hk | hk
      · have h := h.1 hk
        have ek : (v1 - 0).toNat = 0 := by omega
        rw [ek]
        show Ev (d + 1) M_Mo_worth 0 0 44 [(2, v0), (0, v1)] [] kd m3 (zqI kd q)
        refine EvX.blk (pc' := 45) [(.aload_n 0, 0, 0)] (by decide +kernel) trivial ?_
        show Ev (d + 1) M_Mo_worth 0 0 45 [(2, v0), (0, v1)] [(2, v0)] kd m3 (zqI kd q)
        obtain ⟨ov, h⟩ := h
        obtain ⟨q4, hq, h⟩ := h
        refine EvX.callV (c := 8) (mc := 0) (ms := 0) (as := []) (st := []) (by decide +kernel) l_Mo_281 k_Mo_mostWorth v_Mo_mostWorth a_Mo_mostWorth (by decide) (Nat.le_of_ble_eq_true rfl) rfl ov hq (fun r kd1 m6 hr => ?_)
        obtain ⟨x5, rfl, hk, hr⟩ := hr
        subst kd1
        have h := h x5 m6 hr
        show Ev (d + 1) M_Mo_worth 0 0 48 [(2, v0), (0, v1)] [(0, x5)] kd m6 (zqI kd q)
        exact EvX.ret (r := (0, x5)) (by decide +kernel) rfl ⟨_, rfl, rfl, h⟩
      · have h := h.2.1 hk
        have ek : (v1 - 0).toNat = 1 := by omega
        rw [ek]
        show Ev (d + 1) M_Mo_worth 0 0 49 [(2, v0), (0, v1)] [] kd m3 (zqI kd q)
        refine EvX.blk (pc' := 50) [(.aload_n 0, 0, 0)] (by decide +kernel) trivial ?_
        show Ev (d + 1) M_Mo_worth 0 0 50 [(2, v0), (0, v1)] [(2, v0)] kd m3 (zqI kd q)
        obtain ⟨ov, h⟩ := h
        obtain ⟨q7, hq, h⟩ := h
        refine EvX.callV (c := 8) (mc := 0) (ms := 0) (as := []) (st := []) (by decide +kernel) l_Mo_284 k_Mo_allWeights v_Mo_allWeights a_Mo_allWeights (by decide) (Nat.le_of_ble_eq_true rfl) rfl ov hq (fun r kd1 m9 hr => ?_)
        obtain ⟨x8, rfl, hk, hr⟩ := hr
        subst kd1
        have h := h x8 m9 hr
        show Ev (d + 1) M_Mo_worth 0 0 53 [(2, v0), (0, v1)] [(0, x8)] kd m9 (zqI kd q)
        exact EvX.ret (r := (0, x8)) (by decide +kernel) rfl ⟨_, rfl, rfl, h⟩
      · have h := h.2.2.1 hk
        have ek : (v1 - 0).toNat = 2 := by omega
        rw [ek]
        show Ev (d + 1) M_Mo_worth 0 0 54 [(2, v0), (0, v1)] [] kd m3 (zqI kd q)
        refine EvX.blk (pc' := 55) [(.aload_n 0, 0, 0)] (by decide +kernel) trivial ?_
        show Ev (d + 1) M_Mo_worth 0 0 55 [(2, v0), (0, v1)] [(2, v0)] kd m3 (zqI kd q)
        obtain ⟨ov, h⟩ := h
        obtain ⟨q10, hq, h⟩ := h
        refine EvX.callV (c := 8) (mc := 0) (ms := 0) (as := []) (st := []) (by decide +kernel) l_Mo_287 k_Mo_leastWorth v_Mo_leastWorth a_Mo_leastWorth (by decide) (Nat.le_of_ble_eq_true rfl) rfl ov hq (fun r kd1 m12 hr => ?_)
        obtain ⟨x11, rfl, hk, hr⟩ := hr
        subst kd1
        have h := h x11 m12 hr
        show Ev (d + 1) M_Mo_worth 0 0 58 [(2, v0), (0, v1)] [(0, x11)] kd m12 (zqI kd q)
        exact EvX.ret (r := (0, x11)) (by decide +kernel) rfl ⟨_, rfl, rfl, h⟩
      · have h := h.2.2.2.1 hk
        have ek : (v1 - 0).toNat = 3 := by omega
        rw [ek]
        show Ev (d + 1) M_Mo_worth 0 0 59 [(2, v0), (0, v1)] [] kd m3 (zqI kd q)
        refine EvX.blk (pc' := 61) [(.aload_n 0, 0, 0), (.iconst 0, 0, 0)] (by decide +kernel) trivial ?_
        show Ev (d + 1) M_Mo_worth 0 0 61 [(2, v0), (0, v1)] [(0, 0), (2, v0)] kd m3 (zqI kd q)
        obtain ⟨ov, h⟩ := h
        obtain ⟨q13, hq, h⟩ := h
        refine EvX.callV (c := 8) (mc := 0) (ms := 0) (as := [(0, 0)]) (st := []) (by decide +kernel) l_Mo_290 k_Mo_sureOf v_Mo_sureOf a_Mo_sureOf (by decide) (Nat.le_of_ble_eq_true rfl) rfl ov hq (fun r kd1 m15 hr => ?_)
        obtain ⟨x14, rfl, hk, hr⟩ := hr
        subst kd1
        have h := h x14 m15 hr
        show Ev (d + 1) M_Mo_worth 0 0 64 [(2, v0), (0, v1)] [(0, x14)] kd m15 (zqI kd q)
        exact EvX.ret (r := (0, x14)) (by decide +kernel) rfl ⟨_, rfl, rfl, h⟩
      · have h := h.2.2.2.2 hk
        have ek : (v1 - 0).toNat = 4 := by omega
        rw [ek]
        show Ev (d + 1) M_Mo_worth 0 0 65 [(2, v0), (0, v1)] [] kd m3 (zqI kd q)
        refine EvX.blk (pc' := 67) [(.aload_n 0, 0, 0), (.iconst 1, 0, 0)] (by decide +kernel) trivial ?_
        show Ev (d + 1) M_Mo_worth 0 0 67 [(2, v0), (0, v1)] [(0, 1), (2, v0)] kd m3 (zqI kd q)
        obtain ⟨ov, h⟩ := h
        obtain ⟨q16, hq, h⟩ := h
        refine EvX.callV (c := 8) (mc := 0) (ms := 0) (as := [(0, 1)]) (st := []) (by decide +kernel) l_Mo_290 k_Mo_sureOf v_Mo_sureOf a_Mo_sureOf (by decide) (Nat.le_of_ble_eq_true rfl) rfl ov hq (fun r kd1 m18 hr => ?_)
        obtain ⟨x17, rfl, hk, hr⟩ := hr
        subst kd1
        have h := h x17 m18 hr
        show Ev (d + 1) M_Mo_worth 0 0 70 [(2, v0), (0, v1)] [(0, x17)] kd m18 (zqI kd q)
        exact EvX.ret (r := (0, x17)) (by decide +kernel) rfl ⟨_, rfl, rfl, h⟩
  · have h := h.2 hc
    refine EvX.blk (pc' := 8) [(.iconst (-1), 0, 0)] (by decide +kernel) trivial ?_
    show Ev (d + 1) M_Mo_worth 0 0 8 [(2, v0), (0, v1)] [(0, (-1))] kd m3 (zqI kd q)
    exact EvX.ret (r := (0, (-1))) (by decide +kernel) rfl ⟨_, rfl, rfl, h⟩
theorem S_Mo_worth {d : Nat} {kd : ZK} {m : ZM} {q : Int → ZM → Prop} {v0 v1 : Int} (h : (zobj kd v0 8 ∧ ∃ q1, CtI d M_Mo_hasGame [(2, v0)] kd m q1 ∧ ∀ x2 m3, q1 x2 m3 → ((x2 ≠ 0 → (((v1 < 0 ∨ 4 < v1) → q (-1) m3) ∧ (v1 = 0 → (zobj kd v0 8 ∧ ∃ q4, CtI d M_Mo_mostWorth [(2, v0)] kd m3 q4 ∧ ∀ x5 m6, q4 x5 m6 → q x5 m6)) ∧ (v1 = 1 → (zobj kd v0 8 ∧ ∃ q7, CtI d M_Mo_allWeights [(2, v0)] kd m3 q7 ∧ ∀ x8 m9, q7 x8 m9 → q x8 m9)) ∧ (v1 = 2 → (zobj kd v0 8 ∧ ∃ q10, CtI d M_Mo_leastWorth [(2, v0)] kd m3 q10 ∧ ∀ x11 m12, q10 x11 m12 → q x11 m12)) ∧ (v1 = 3 → (zobj kd v0 8 ∧ ∃ q13, CtI d M_Mo_sureOf [(2, v0), (0, 0)] kd m3 q13 ∧ ∀ x14 m15, q13 x14 m15 → q x14 m15)) ∧ (v1 = 4 → (zobj kd v0 8 ∧ ∃ q16, CtI d M_Mo_sureOf [(2, v0), (0, 1)] kd m3 q16 ∧ ∀ x17 m18, q16 x17 m18 → q x17 m18)))) ∧ (¬ x2 ≠ 0 → q (-1) m3)))) : CtI (d + 1) M_Mo_worth [(2, v0), (0, v1)] kd m q :=
  Ct.start k_Mo_worth (Nat.le_of_ble_eq_true rfl) ⟨1, Or.inr (Or.inl ⟨rfl, rfl⟩)⟩ (T_Mo_worth_0 h)
set_option maxRecDepth 20000 in
set_option maxHeartbeats 1000000 in
theorem T_Mo_sure_0 {d : Nat} {kd : ZK} {m : ZM} {q : Int → ZM → Prop} {v0 v1 : Int} (h : (zobj kd v0 8 ∧ ∃ q1, CtI d M_Mo_hasGame [(2, v0)] kd m q1 ∧ ∀ x2 m3, q1 x2 m3 → ((x2 = 0 → q (-1) m3) ∧ (¬ x2 = 0 → (∃ q4, CtI d M_Mo_isPlayer [(0, v1)] kd m3 q4 ∧ ∀ x5 m6, q4 x5 m6 → ((x5 ≠ 0 → (zobj kd v0 8 ∧ ∃ q7, CtI d M_Mo_sureOf [(2, v0), (0, v1)] kd m6 q7 ∧ ∀ x8 m9, q7 x8 m9 → (zobj kd v0 8 ∧ q (m9 v0 16) m9))) ∧ (¬ x5 ≠ 0 → q (-1) m6))))))) : Ev (d + 1) M_Mo_sure 0 0 0 [(2, v0), (0, v1), zJ] [] kd m (zqI kd q) := by
  refine EvX.blk (pc' := 1) [(.aload_n 0, 0, 0)] (by decide +kernel) trivial ?_
  show Ev (d + 1) M_Mo_sure 0 0 1 [(2, v0), (0, v1), zJ] [(2, v0)] kd m (zqI kd q)
  obtain ⟨ov, h⟩ := h
  obtain ⟨q1, hq, h⟩ := h
  refine EvX.callV (c := 8) (mc := 0) (ms := 0) (as := []) (st := []) (by decide +kernel) l_Mo_215 k_Mo_hasGame v_Mo_hasGame a_Mo_hasGame (by decide) (Nat.le_of_ble_eq_true rfl) rfl ov hq (fun r kd1 m3 hr => ?_)
  obtain ⟨x2, rfl, hk, hr⟩ := hr
  subst kd1
  have h := h x2 m3 hr
  show Ev (d + 1) M_Mo_sure 0 0 4 [(2, v0), (0, v1), zJ] [(0, x2)] kd m3 (zqI kd q)
  refine EvX.if_eq (off := 10) (tgt := 14) (by decide +kernel) (by decide) (fun hc => ?_) (fun hc => ?_)
  · have h := h.1 hc
    refine EvX.blk (pc' := 15) [(.iconst (-1), 0, 0)] (by decide +kernel) trivial ?_
    show Ev (d + 1) M_Mo_sure 0 0 15 [(2, v0), (0, v1), zJ] [(0, (-1))] kd m3 (zqI kd q)
    exact EvX.ret (r := (0, (-1))) (by decide +kernel) rfl ⟨_, rfl, rfl, h⟩
  · have h := h.2 hc
    refine EvX.blk (pc' := 8) [(.iload_n 1, 0, 0)] (by decide +kernel) trivial ?_
    show Ev (d + 1) M_Mo_sure 0 0 8 [(2, v0), (0, v1), zJ] [(0, v1)] kd m3 (zqI kd q)
    obtain ⟨q4, hq, h⟩ := h
    refine EvX.callS (mc := 0) (ms := 0) (as := [(0, v1)]) (st := []) (by decide +kernel) l_Mo_208 k_Mo_isPlayer s_Mo_isPlayer a_Mo_isPlayer (by decide) (Nat.le_of_ble_eq_true rfl) hq (fun r kd1 m6 hr => ?_)
    obtain ⟨x5, rfl, hk, hr⟩ := hr
    subst kd1
    have h := h x5 m6 hr
    show Ev (d + 1) M_Mo_sure 0 0 11 [(2, v0), (0, v1), zJ] [(0, x5)] kd m6 (zqI kd q)
    refine EvX.if_ne (off := 5) (tgt := 16) (by decide +kernel) (by decide) (fun hc => ?_) (fun hc => ?_)
    · have h := h.1 hc
      refine EvX.blk (pc' := 18) [(.aload_n 0, 0, 0), (.iload_n 1, 0, 0)] (by decide +kernel) trivial ?_
      show Ev (d + 1) M_Mo_sure 0 0 18 [(2, v0), (0, v1), zJ] [(0, v1), (2, v0)] kd m6 (zqI kd q)
      obtain ⟨ov, h⟩ := h
      obtain ⟨q7, hq, h⟩ := h
      refine EvX.callV (c := 8) (mc := 0) (ms := 0) (as := [(0, v1)]) (st := []) (by decide +kernel) l_Mo_290 k_Mo_sureOf v_Mo_sureOf a_Mo_sureOf (by decide) (Nat.le_of_ble_eq_true rfl) rfl ov hq (fun r kd1 m9 hr => ?_)
      obtain ⟨x8, rfl, hk, hr⟩ := hr
      subst kd1
      have h := h x8 m9 hr
      show Ev (d + 1) M_Mo_sure 0 0 21 [(2, v0), (0, v1), zJ] [(0, x8)] kd m9 (zqI kd q)
      obtain ⟨o1, h⟩ := h
      refine EvX.blk (pc' := 26) [(.istore_n 2, 0, 0), (.aload_n 0, 0, 0), (.getfield 275, 8, 16)] (by decide +kernel) ⟨g_Mo_275, trivial⟩ ⟨o1, ?_⟩
      show Ev (d + 1) M_Mo_sure 0 0 26 [(2, v0), (0, v1), (0, x8)] [(0, m9 v0 16)] kd m9 (zqI kd q)
      exact EvX.ret (r := (0, m9 v0 16)) (by decide +kernel) rfl ⟨_, rfl, rfl, h⟩
    · have h := h.2 hc
      refine EvX.blk (pc' := 15) [(.iconst (-1), 0, 0)] (by decide +kernel) trivial ?_
      show Ev (d + 1) M_Mo_sure 0 0 15 [(2, v0), (0, v1), zJ] [(0, (-1))] kd m6 (zqI kd q)
      exact EvX.ret (r := (0, (-1))) (by decide +kernel) rfl ⟨_, rfl, rfl, h⟩
theorem S_Mo_sure {d : Nat} {kd : ZK} {m : ZM} {q : Int → ZM → Prop} {v0 v1 : Int} (h : (zobj kd v0 8 ∧ ∃ q1, CtI d M_Mo_hasGame [(2, v0)] kd m q1 ∧ ∀ x2 m3, q1 x2 m3 → ((x2 = 0 → q (-1) m3) ∧ (¬ x2 = 0 → (∃ q4, CtI d M_Mo_isPlayer [(0, v1)] kd m3 q4 ∧ ∀ x5 m6, q4 x5 m6 → ((x5 ≠ 0 → (zobj kd v0 8 ∧ ∃ q7, CtI d M_Mo_sureOf [(2, v0), (0, v1)] kd m6 q7 ∧ ∀ x8 m9, q7 x8 m9 → (zobj kd v0 8 ∧ q (m9 v0 16) m9))) ∧ (¬ x5 ≠ 0 → q (-1) m6))))))) : CtI (d + 1) M_Mo_sure [(2, v0), (0, v1)] kd m q :=
  Ct.start k_Mo_sure (Nat.le_of_ble_eq_true rfl) ⟨1, Or.inr (Or.inl ⟨rfl, rfl⟩)⟩ (T_Mo_sure_0 h)
set_option maxRecDepth 20000 in
set_option maxHeartbeats 1000000 in
theorem T_Mo_play_0 {d : Nat} {kd : ZK} {m : ZM} {q : Int → ZM → Prop} {v0 v1 v2 : Int} (h : (zobj kd v0 8 ∧ ∃ q1, CtI d M_Mo_lays [(2, v0), (0, 0), (0, v1)] kd m q1 ∧ ∀ x2 m3, q1 x2 m3 → ((x2 = 0 → q (-1) m3) ∧ (¬ x2 = 0 → (zobj kd v0 8 ∧ ∃ q4, CtI d M_Mo_lays [(2, v0), (0, 1), (0, v2)] kd m3 q4 ∧ ∀ x5 m6, q4 x5 m6 → ((x5 = 0 → q (-1) m6) ∧ (¬ x5 = 0 → (zobj kd v0 8 ∧ ∃ q7, CtI d M_Mo_worthNow [(2, v0)] kd m6 q7 ∧ ∀ x8 m9, q7 x8 m9 → q x8 m9)))))))) : Ev (d + 1) M_Mo_play 0 0 0 [(2, v0), (0, v1), (0, v2)] [] kd m (zqI kd q) := by
  refine EvX.blk (pc' := 3) [(.aload_n 0, 0, 0), (.iconst 0, 0, 0), (.iload_n 1, 0, 0)] (by decide +kernel) trivial ?_
  show Ev (d + 1) M_Mo_play 0 0 3 [(2, v0), (0, v1), (0, v2)] [(0, v1), (0, 0), (2, v0)] kd m (zqI kd q)
  obtain ⟨ov, h⟩ := h
  obtain ⟨q1, hq, h⟩ := h
  refine EvX.callV (c := 8) (mc := 0) (ms := 0) (as := [(0, 0), (0, v1)]) (st := []) (by decide +kernel) l_Mo_229 k_Mo_lays v_Mo_lays a_Mo_lays (by decide) (Nat.le_of_ble_eq_true rfl) rfl ov hq (fun r kd1 m3 hr => ?_)
  obtain ⟨x2, rfl, hk, hr⟩ := hr
  subst kd1
  have h := h x2 m3 hr
  show Ev (d + 1) M_Mo_play 0 0 6 [(2, v0), (0, v1), (0, v2)] [(0, x2)] kd m3 (zqI kd q)
  refine EvX.if_eq (off := 19) (tgt := 25) (by decide +kernel) (by decide) (fun hc => ?_) (fun hc => ?_)
  · have h := h.1 hc
    refine EvX.blk (pc' := 26) [(.iconst (-1), 0, 0)] (by decide +kernel) trivial ?_
    show Ev (d + 1) M_Mo_play 0 0 26 [(2, v0), (0, v1), (0, v2)] [(0, (-1))] kd m3 (zqI kd q)
    exact EvX.ret (r := (0, (-1))) (by decide +kernel) rfl ⟨_, rfl, rfl, h⟩
  · have h := h.2 hc
    refine EvX.blk (pc' := 12) [(.aload_n 0, 0, 0), (.iconst 1, 0, 0), (.iload_n 2, 0, 0)] (by decide +kernel) trivial ?_
    show Ev (d + 1) M_Mo_play 0 0 12 [(2, v0), (0, v1), (0, v2)] [(0, v2), (0, 1), (2, v0)] kd m3 (zqI kd q)
    obtain ⟨ov, h⟩ := h
    obtain ⟨q4, hq, h⟩ := h
    refine EvX.callV (c := 8) (mc := 0) (ms := 0) (as := [(0, 1), (0, v2)]) (st := []) (by decide +kernel) l_Mo_229 k_Mo_lays v_Mo_lays a_Mo_lays (by decide) (Nat.le_of_ble_eq_true rfl) rfl ov hq (fun r kd1 m6 hr => ?_)
    obtain ⟨x5, rfl, hk, hr⟩ := hr
    subst kd1
    have h := h x5 m6 hr
    show Ev (d + 1) M_Mo_play 0 0 15 [(2, v0), (0, v1), (0, v2)] [(0, x5)] kd m6 (zqI kd q)
    refine EvX.if_eq (off := 10) (tgt := 25) (by decide +kernel) (by decide) (fun hc => ?_) (fun hc => ?_)
    · have h := h.1 hc
      refine EvX.blk (pc' := 26) [(.iconst (-1), 0, 0)] (by decide +kernel) trivial ?_
      show Ev (d + 1) M_Mo_play 0 0 26 [(2, v0), (0, v1), (0, v2)] [(0, (-1))] kd m6 (zqI kd q)
      exact EvX.ret (r := (0, (-1))) (by decide +kernel) rfl ⟨_, rfl, rfl, h⟩
    · have h := h.2 hc
      refine EvX.blk (pc' := 19) [(.aload_n 0, 0, 0)] (by decide +kernel) trivial ?_
      show Ev (d + 1) M_Mo_play 0 0 19 [(2, v0), (0, v1), (0, v2)] [(2, v0)] kd m6 (zqI kd q)
      obtain ⟨ov, h⟩ := h
      obtain ⟨q7, hq, h⟩ := h
      refine EvX.callV (c := 8) (mc := 0) (ms := 0) (as := []) (st := []) (by decide +kernel) l_Mo_293 k_Mo_worthNow v_Mo_worthNow a_Mo_worthNow (by decide) (Nat.le_of_ble_eq_true rfl) rfl ov hq (fun r kd1 m9 hr => ?_)
      obtain ⟨x8, rfl, hk, hr⟩ := hr
      subst kd1
      have h := h x8 m9 hr
      show Ev (d + 1) M_Mo_play 0 0 22 [(2, v0), (0, v1), (0, v2)] [(0, x8)] kd m9 (zqI kd q)
      refine EvX.goto (off := 4) (tgt := 26) (by decide +kernel) (by decide) ?_
      exact EvX.ret (r := (0, x8)) (by decide +kernel) rfl ⟨_, rfl, rfl, h⟩
theorem S_Mo_play {d : Nat} {kd : ZK} {m : ZM} {q : Int → ZM → Prop} {v0 v1 v2 : Int} (h : (zobj kd v0 8 ∧ ∃ q1, CtI d M_Mo_lays [(2, v0), (0, 0), (0, v1)] kd m q1 ∧ ∀ x2 m3, q1 x2 m3 → ((x2 = 0 → q (-1) m3) ∧ (¬ x2 = 0 → (zobj kd v0 8 ∧ ∃ q4, CtI d M_Mo_lays [(2, v0), (0, 1), (0, v2)] kd m3 q4 ∧ ∀ x5 m6, q4 x5 m6 → ((x5 = 0 → q (-1) m6) ∧ (¬ x5 = 0 → (zobj kd v0 8 ∧ ∃ q7, CtI d M_Mo_worthNow [(2, v0)] kd m6 q7 ∧ ∀ x8 m9, q7 x8 m9 → q x8 m9)))))))) : CtI (d + 1) M_Mo_play [(2, v0), (0, v1), (0, v2)] kd m q :=
  Ct.start k_Mo_play (Nat.le_of_ble_eq_true rfl) ⟨1, Or.inr (Or.inl ⟨rfl, rfl⟩)⟩ (T_Mo_play_0 h)
set_option maxRecDepth 20000 in
set_option maxHeartbeats 1000000 in
theorem T_Mo_hangs_0 {d : Nat} {kd : ZK} {m : ZM} {q : Int → ZM → Prop} {v0 v1 v2 : Int} (h : (zobj kd v0 8 ∧ ∃ q1, CtI d M_Mo_lays [(2, v0), (0, 0), (0, v1)] kd m q1 ∧ ∀ x2 m3, q1 x2 m3 → ((x2 = 0 → q (-1) m3) ∧ (¬ x2 = 0 → (zobj kd v0 8 ∧ ∃ q4, CtI d M_Mo_isQuestion [(2, v0), (0, 1), (0, v2)] kd m3 q4 ∧ ∀ x5 m6, q4 x5 m6 → ((x5 ≠ 0 → (zobj kd v0 8 ∧ ∃ q7, CtV d M_Mo_laysBy [(2, v0), (0, 0), (0, v2)] kd m6 q7 ∧ ∀ m9, q7 m9 → (zobj kd v0 8 ∧ ∃ q10, CtI d M_Mo_bestBy [(2, v0), (0, 0)] kd m9 q10 ∧ ∀ x11 m12, q10 x11 m12 → (zobj kd v0 8 ∧ ∃ q13, CtI d M_Mo_worstBy [(2, v0), (0, 0)] kd m12 q13 ∧ ∀ x14 m15, q13 x14 m15 → q (iw (x11 - x14)) m15)))) ∧ (¬ x5 ≠ 0 → q (-1) m6))))))) : Ev (d + 1) M_Mo_hangs 0 0 0 [(2, v0), (0, v1), (0, v2)] [] kd m (zqI kd q) := by
  refine EvX.blk (pc' := 3) [(.aload_n 0, 0, 0), (.iconst 0, 0, 0), (.iload_n 1, 0, 0)] (by decide +kernel) trivial ?_
  show Ev (d + 1) M_Mo_hangs 0 0 3 [(2, v0), (0, v1), (0, v2)] [(0, v1), (0, 0), (2, v0)] kd m (zqI kd q)
  obtain ⟨ov, h⟩ := h
  obtain ⟨q1, hq, h⟩ := h
  refine EvX.callV (c := 8) (mc := 0) (ms := 0) (as := [(0, 0), (0, v1)]) (st := []) (by decide +kernel) l_Mo_229 k_Mo_lays v_Mo_lays a_Mo_lays (by decide) (Nat.le_of_ble_eq_true rfl) rfl ov hq (fun r kd1 m3 hr => ?_)
  obtain ⟨x2, rfl, hk, hr⟩ := hr
  subst kd1
  have h := h x2 m3 hr
  show Ev (d + 1) M_Mo_hangs 0 0 6 [(2, v0), (0, v1), (0, v2)] [(0, x2)] kd m3 (zqI kd q)
  refine EvX.if_eq (off := 12) (tgt := 18) (by decide +kernel) (by decide) (fun hc => ?_) (fun hc => ?_)
  · have h := h.1 hc
    refine EvX.blk (pc' := 19) [(.iconst (-1), 0, 0)] (by decide +kernel) trivial ?_
    show Ev (d + 1) M_Mo_hangs 0 0 19 [(2, v0), (0, v1), (0, v2)] [(0, (-1))] kd m3 (zqI kd q)
    exact EvX.ret (r := (0, (-1))) (by decide +kernel) rfl ⟨_, rfl, rfl, h⟩
  · have h := h.2 hc
    refine EvX.blk (pc' := 12) [(.aload_n 0, 0, 0), (.iconst 1, 0, 0), (.iload_n 2, 0, 0)] (by decide +kernel) trivial ?_
    show Ev (d + 1) M_Mo_hangs 0 0 12 [(2, v0), (0, v1), (0, v2)] [(0, v2), (0, 1), (2, v0)] kd m3 (zqI kd q)
    obtain ⟨ov, h⟩ := h
    obtain ⟨q4, hq, h⟩ := h
    refine EvX.callV (c := 8) (mc := 0) (ms := 0) (as := [(0, 1), (0, v2)]) (st := []) (by decide +kernel) l_Mo_170 k_Mo_isQuestion v_Mo_isQuestion a_Mo_isQuestion (by decide) (Nat.le_of_ble_eq_true rfl) rfl ov hq (fun r kd1 m6 hr => ?_)
    obtain ⟨x5, rfl, hk, hr⟩ := hr
    subst kd1
    have h := h x5 m6 hr
    show Ev (d + 1) M_Mo_hangs 0 0 15 [(2, v0), (0, v1), (0, v2)] [(0, x5)] kd m6 (zqI kd q)
    refine EvX.if_ne (off := 5) (tgt := 20) (by decide +kernel) (by decide) (fun hc => ?_) (fun hc => ?_)
    · have h := h.1 hc
      refine EvX.blk (pc' := 23) [(.aload_n 0, 0, 0), (.iconst 0, 0, 0), (.iload_n 2, 0, 0)] (by decide +kernel) trivial ?_
      show Ev (d + 1) M_Mo_hangs 0 0 23 [(2, v0), (0, v1), (0, v2)] [(0, v2), (0, 0), (2, v0)] kd m6 (zqI kd q)
      obtain ⟨ov, h⟩ := h
      obtain ⟨q7, hq, h⟩ := h
      refine EvX.callV (c := 8) (mc := 0) (ms := 0) (as := [(0, 0), (0, v2)]) (st := []) (by decide +kernel) l_Mo_256 k_Mo_laysBy v_Mo_laysBy a_Mo_laysBy (by decide) (Nat.le_of_ble_eq_true rfl) rfl ov hq (fun r kd1 m9 hr => ?_)
      obtain ⟨rfl, hk, hr⟩ := hr
      subst kd1
      have h := h m9 hr
      show Ev (d + 1) M_Mo_hangs 0 0 26 [(2, v0), (0, v1), (0, v2)] [] kd m9 (zqI kd q)
      refine EvX.blk (pc' := 28) [(.aload_n 0, 0, 0), (.iconst 0, 0, 0)] (by decide +kernel) trivial ?_
      show Ev (d + 1) M_Mo_hangs 0 0 28 [(2, v0), (0, v1), (0, v2)] [(0, 0), (2, v0)] kd m9 (zqI kd q)
      obtain ⟨ov, h⟩ := h
      obtain ⟨q10, hq, h⟩ := h
      refine EvX.callV (c := 8) (mc := 0) (ms := 0) (as := [(0, 0)]) (st := []) (by decide +kernel) l_Mo_259 k_Mo_bestBy v_Mo_bestBy a_Mo_bestBy (by decide) (Nat.le_of_ble_eq_true rfl) rfl ov hq (fun r kd1 m12 hr => ?_)
      obtain ⟨x11, rfl, hk, hr⟩ := hr
      subst kd1
      have h := h x11 m12 hr
      show Ev (d + 1) M_Mo_hangs 0 0 31 [(2, v0), (0, v1), (0, v2)] [(0, x11)] kd m12 (zqI kd q)
      refine EvX.blk (pc' := 33) [(.aload_n 0, 0, 0), (.iconst 0, 0, 0)] (by decide +kernel) trivial ?_
      show Ev (d + 1) M_Mo_hangs 0 0 33 [(2, v0), (0, v1), (0, v2)] [(0, 0), (2, v0), (0, x11)] kd m12 (zqI kd q)
      obtain ⟨ov, h⟩ := h
      obtain ⟨q13, hq, h⟩ := h
      refine EvX.callV (c := 8) (mc := 0) (ms := 0) (as := [(0, 0)]) (st := [(0, x11)]) (by decide +kernel) l_Mo_262 k_Mo_worstBy v_Mo_worstBy a_Mo_worstBy (by decide) (Nat.le_of_ble_eq_true rfl) rfl ov hq (fun r kd1 m15 hr => ?_)
      obtain ⟨x14, rfl, hk, hr⟩ := hr
      subst kd1
      have h := h x14 m15 hr
      show Ev (d + 1) M_Mo_hangs 0 0 36 [(2, v0), (0, v1), (0, v2)] [(0, x14), (0, x11)] kd m15 (zqI kd q)
      refine EvX.blk (pc' := 37) [(.isub, 0, 0)] (by decide +kernel) trivial ?_
      show Ev (d + 1) M_Mo_hangs 0 0 37 [(2, v0), (0, v1), (0, v2)] [(0, iw (x11 - x14))] kd m15 (zqI kd q)
      exact EvX.ret (r := (0, iw (x11 - x14))) (by decide +kernel) rfl ⟨_, rfl, rfl, h⟩
    · have h := h.2 hc
      refine EvX.blk (pc' := 19) [(.iconst (-1), 0, 0)] (by decide +kernel) trivial ?_
      show Ev (d + 1) M_Mo_hangs 0 0 19 [(2, v0), (0, v1), (0, v2)] [(0, (-1))] kd m6 (zqI kd q)
      exact EvX.ret (r := (0, (-1))) (by decide +kernel) rfl ⟨_, rfl, rfl, h⟩
theorem S_Mo_hangs {d : Nat} {kd : ZK} {m : ZM} {q : Int → ZM → Prop} {v0 v1 v2 : Int} (h : (zobj kd v0 8 ∧ ∃ q1, CtI d M_Mo_lays [(2, v0), (0, 0), (0, v1)] kd m q1 ∧ ∀ x2 m3, q1 x2 m3 → ((x2 = 0 → q (-1) m3) ∧ (¬ x2 = 0 → (zobj kd v0 8 ∧ ∃ q4, CtI d M_Mo_isQuestion [(2, v0), (0, 1), (0, v2)] kd m3 q4 ∧ ∀ x5 m6, q4 x5 m6 → ((x5 ≠ 0 → (zobj kd v0 8 ∧ ∃ q7, CtV d M_Mo_laysBy [(2, v0), (0, 0), (0, v2)] kd m6 q7 ∧ ∀ m9, q7 m9 → (zobj kd v0 8 ∧ ∃ q10, CtI d M_Mo_bestBy [(2, v0), (0, 0)] kd m9 q10 ∧ ∀ x11 m12, q10 x11 m12 → (zobj kd v0 8 ∧ ∃ q13, CtI d M_Mo_worstBy [(2, v0), (0, 0)] kd m12 q13 ∧ ∀ x14 m15, q13 x14 m15 → q (iw (x11 - x14)) m15)))) ∧ (¬ x5 ≠ 0 → q (-1) m6))))))) : CtI (d + 1) M_Mo_hangs [(2, v0), (0, v1), (0, v2)] kd m q :=
  Ct.start k_Mo_hangs (Nat.le_of_ble_eq_true rfl) ⟨1, Or.inr (Or.inl ⟨rfl, rfl⟩)⟩ (T_Mo_hangs_0 h)
set_option maxRecDepth 20000 in
set_option maxHeartbeats 1000000 in
theorem T_Mo_replies_0 {d : Nat} {kd : ZK} {m : ZM} {q : ZM → Prop} {v0 v1 : Int} (h : (Ev (d + 1) M_Mo_replies 0 0 2 [(2, v0), (0, v1), (0, 0), zJ, zJ] [] kd m (zqV kd q))) : Ev (d + 1) M_Mo_replies 0 0 0 [(2, v0), (0, v1), zJ, zJ, zJ] [] kd m (zqV kd q) := by
  refine EvX.blk (pc' := 2) [(.iconst 0, 0, 0), (.istore_n 2, 0, 0)] (by decide +kernel) trivial ?_
  show Ev (d + 1) M_Mo_replies 0 0 2 [(2, v0), (0, v1), (0, 0), zJ, zJ] [] kd m (zqV kd q)
  exact h
theorem S_Mo_replies {d : Nat} {kd : ZK} {m : ZM} {q : ZM → Prop} {v0 v1 : Int} (h : (Ev (d + 1) M_Mo_replies 0 0 2 [(2, v0), (0, v1), (0, 0), zJ, zJ] [] kd m (zqV kd q))) : CtV (d + 1) M_Mo_replies [(2, v0), (0, v1)] kd m q :=
  Ct.start k_Mo_replies (Nat.le_of_ble_eq_true rfl) ⟨0, Or.inl ⟨rfl, rfl⟩⟩ (T_Mo_replies_0 h)
set_option maxRecDepth 20000 in
set_option maxHeartbeats 1000000 in
theorem T_Mo_replies_2 {d : Nat} {kd : ZK} {m : ZM} {q : ZM → Prop} {v0 v1 v2 : Int} (h : (zobj kd v0 8 ∧ ∃ q1, CtI d M_Mo_questions [(2, v0), (0, v1)] kd m q1 ∧ ∀ x2 m3, q1 x2 m3 → ((x2 ≤ v2 → q m3) ∧ (¬ x2 ≤ v2 → (zobj kd v0 8 ∧ ∃ q4, CtV d M_Mo_laysBy [(2, v0), (0, iw (1 - v1)), (0, v2)] kd m3 q4 ∧ ∀ m6, q4 m6 → (Ev (d + 1) M_Mo_replies 0 0 24 [(2, v0), (0, v1), (0, v2), (0, 0), (0, 1)] [] kd m6 (zqV kd q))))))) : Ev (d + 1) M_Mo_replies 0 0 2 [(2, v0), (0, v1), (0, v2), zJ, zJ] [] kd m (zqV kd q) := by
  refine EvX.blk (pc' := 5) [(.iload_n 2, 0, 0), (.aload_n 0, 0, 0), (.iload_n 1, 0, 0)] (by decide +kernel) trivial ?_
  show Ev (d + 1) M_Mo_replies 0 0 5 [(2, v0), (0, v1), (0, v2), zJ, zJ] [(0, v1), (2, v0), (0, v2)] kd m (zqV kd q)
  obtain ⟨ov, h⟩ := h
  obtain ⟨q1, hq, h⟩ := h
  refine EvX.callV (c := 8) (mc := 0) (ms := 0) (as := [(0, v1)]) (st := [(0, v2)]) (by decide +kernel) l_Mo_163 k_Mo_questions v_Mo_questions a_Mo_questions (by decide) (Nat.le_of_ble_eq_true rfl) rfl ov hq (fun r kd1 m3 hr => ?_)
  obtain ⟨x2, rfl, hk, hr⟩ := hr
  subst kd1
  have h := h x2 m3 hr
  show Ev (d + 1) M_Mo_replies 0 0 8 [(2, v0), (0, v1), (0, v2), zJ, zJ] [(0, x2), (0, v2)] kd m3 (zqV kd q)
  refine EvX.icmp_ge (off := 69) (tgt := 77) (by decide +kernel) (by decide) (fun hc => ?_) (fun hc => ?_)
  · have h := h.1 hc
    exact EvX.ret (r := zJ) (by decide +kernel) rfl ⟨rfl, rfl, h⟩
  · have h := h.2 hc
    refine EvX.blk (pc' := 16) [(.aload_n 0, 0, 0), (.iconst 1, 0, 0), (.iload_n 1, 0, 0), (.isub, 0, 0), (.iload_n 2, 0, 0)] (by decide +kernel) trivial ?_
    show Ev (d + 1) M_Mo_replies 0 0 16 [(2, v0), (0, v1), (0, v2), zJ, zJ] [(0, v2), (0, iw (1 - v1)), (2, v0)] kd m3 (zqV kd q)
    obtain ⟨ov, h⟩ := h
    obtain ⟨q4, hq, h⟩ := h
    refine EvX.callV (c := 8) (mc := 0) (ms := 0) (as := [(0, iw (1 - v1)), (0, v2)]) (st := []) (by decide +kernel) l_Mo_256 k_Mo_laysBy v_Mo_laysBy a_Mo_laysBy (by decide) (Nat.le_of_ble_eq_true rfl) rfl ov hq (fun r kd1 m6 hr => ?_)
    obtain ⟨rfl, hk, hr⟩ := hr
    subst kd1
    have h := h m6 hr
    show Ev (d + 1) M_Mo_replies 0 0 19 [(2, v0), (0, v1), (0, v2), zJ, zJ] [] kd m6 (zqV kd q)
    refine EvX.blk (pc' := 24) [(.iconst 0, 0, 0), (.istore_n 3, 0, 0), (.iconst 1, 0, 0), (.istore 4, 0, 0)] (by decide +kernel) trivial ?_
    show Ev (d + 1) M_Mo_replies 0 0 24 [(2, v0), (0, v1), (0, v2), (0, 0), (0, 1)] [] kd m6 (zqV kd q)
    exact h
set_option maxRecDepth 20000 in
set_option maxHeartbeats 1000000 in
theorem T_Mo_replies_24 {d : Nat} {kd : ZK} {m : ZM} {q : ZM → Prop} {v0 v1 v2 v3 v4 : Int} (h : (zobj kd v0 8 ∧ ∃ q1, CtI d M_Mo_answers [(2, v0), (0, v1)] kd m q1 ∧ ∀ x2 m3, q1 x2 m3 → ((x2 ≤ v4 → (zobj kd v0 8 ∧ ∃ q4, CtR d M_Mo_rowOf [(2, v0), (0, v1)] kd m3 q4 ∧ ∀ x5 m6, q4 x5 m6 → (zIn kd x5 0 v2 ∧ (Ev (d + 1) M_Mo_replies 0 0 2 [(2, v0), (0, v1), (0, iw (v2 + 1)), zJ, zJ] [] kd (zup m6 x5 v2 v3) (zqV kd q))))) ∧ (¬ x2 ≤ v4 → (zobj kd v0 8 ∧ zIn kd (m3 v0 15) 0 v4 ∧ zobj kd v0 8 ∧ zIn kd (m3 v0 15) 0 v3 ∧ (((m3 (m3 v0 15) v4) ≤ (m3 (m3 v0 15) v3) → (Ev (d + 1) M_Mo_replies 0 0 24 [(2, v0), (0, v1), (0, v2), (0, v3), (0, iw (v4 + 1))] [] kd m3 (zqV kd q))) ∧ (¬ (m3 (m3 v0 15) v4) ≤ (m3 (m3 v0 15) v3) → (Ev (d + 1) M_Mo_replies 0 0 24 [(2, v0), (0, v1), (0, v2), (0, v4), (0, iw (v4 + 1))] [] kd m3 (zqV kd q))))))))) : Ev (d + 1) M_Mo_replies 0 0 24 [(2, v0), (0, v1), (0, v2), (0, v3), (0, v4)] [] kd m (zqV kd q) := by
  refine EvX.blk (pc' := 28) [(.iload 4, 0, 0), (.aload_n 0, 0, 0), (.iload_n 1, 0, 0)] (by decide +kernel) trivial ?_
  show Ev (d + 1) M_Mo_replies 0 0 28 [(2, v0), (0, v1), (0, v2), (0, v3), (0, v4)] [(0, v1), (2, v0), (0, v4)] kd m (zqV kd q)
  obtain ⟨ov, h⟩ := h
  obtain ⟨q1, hq, h⟩ := h
  refine EvX.callV (c := 8) (mc := 0) (ms := 0) (as := [(0, v1)]) (st := [(0, v4)]) (by decide +kernel) l_Mo_167 k_Mo_answers v_Mo_answers a_Mo_answers (by decide) (Nat.le_of_ble_eq_true rfl) rfl ov hq (fun r kd1 m3 hr => ?_)
  obtain ⟨x2, rfl, hk, hr⟩ := hr
  subst kd1
  have h := h x2 m3 hr
  show Ev (d + 1) M_Mo_replies 0 0 31 [(2, v0), (0, v1), (0, v2), (0, v3), (0, v4)] [(0, x2), (0, v4)] kd m3 (zqV kd q)
  refine EvX.icmp_ge (off := 32) (tgt := 63) (by decide +kernel) (by decide) (fun hc => ?_) (fun hc => ?_)
  · have h := h.1 hc
    refine EvX.blk (pc' := 65) [(.aload_n 0, 0, 0), (.iload_n 1, 0, 0)] (by decide +kernel) trivial ?_
    show Ev (d + 1) M_Mo_replies 0 0 65 [(2, v0), (0, v1), (0, v2), (0, v3), (0, v4)] [(0, v1), (2, v0)] kd m3 (zqV kd q)
    obtain ⟨ov, h⟩ := h
    obtain ⟨q4, hq, h⟩ := h
    refine EvX.callV (c := 8) (mc := 0) (ms := 0) (as := [(0, v1)]) (st := []) (by decide +kernel) l_Mo_222 k_Mo_rowOf v_Mo_rowOf a_Mo_rowOf (by decide) (Nat.le_of_ble_eq_true rfl) rfl ov hq (fun r kd1 m6 hr => ?_)
    obtain ⟨x5, rfl, hk, hr⟩ := hr
    subst kd1
    have h := h x5 m6 hr
    show Ev (d + 1) M_Mo_replies 0 0 68 [(2, v0), (0, v1), (0, v2), (0, v3), (0, v4)] [(2, x5)] kd m6 (zqV kd q)
    obtain ⟨o1, h⟩ := h
    refine EvX.blk (pc' := 74) [(.iload_n 2, 0, 0), (.iload_n 3, 0, 0), (.iastore, 0, 0), (.iinc 2 1, 0, 0)] (by decide +kernel) trivial ⟨o1, ?_⟩
    show Ev (d + 1) M_Mo_replies 0 0 74 [(2, v0), (0, v1), (0, iw (v2 + 1)), (0, v3), (0, v4)] [] kd (zup m6 x5 v2 v3) (zqV kd q)
    refine EvX.goto (off := (-72)) (tgt := 2) (by decide +kernel) (by decide) ?_
    exact EvX.weak (ls2 := [(2, v0), (0, v1), (0, iw (v2 + 1)), zJ, zJ]) (zwk_of ⟨Or.inr rfl, Or.inr rfl, Or.inr rfl, Or.inl rfl, Or.inl rfl, trivial⟩) h
  · have h := h.2 hc
    obtain ⟨o1, o2, o3, o4, h⟩ := h
    refine EvX.blk (pc' := 47) [(.aload_n 0, 0, 0), (.getfield 39, 8, 15), (.iload 4, 0, 0), (.iaload, 0, 0), (.aload_n 0, 0, 0), (.getfield 39, 8, 15), (.iload_n 3, 0, 0), (.iaload, 0, 0)] (by decide +kernel) ⟨g_Mo_39, g_Mo_39, trivial⟩ ⟨o1, o2, o3, o4, ?_⟩
    show Ev (d + 1) M_Mo_replies 0 0 47 [(2, v0), (0, v1), (0, v2), (0, v3), (0, v4)] [(0, m3 (m3 v0 15) v3), (0, m3 (m3 v0 15) v4)] kd m3 (zqV kd q)
    refine EvX.icmp_le (off := 8) (tgt := 55) (by decide +kernel) (by decide) (fun hc => ?_) (fun hc => ?_)
    · have h := h.1 hc
      refine EvX.blk (pc' := 60) [(.iload_n 3, 0, 0), (.istore_n 3, 0, 0), (.iinc 4 1, 0, 0)] (by decide +kernel) trivial ?_
      show Ev (d + 1) M_Mo_replies 0 0 60 [(2, v0), (0, v1), (0, v2), (0, v3), (0, iw (v4 + 1))] [] kd m3 (zqV kd q)
      refine EvX.goto (off := (-36)) (tgt := 24) (by decide +kernel) (by decide) ?_
      exact h
    · have h := h.2 hc
      refine EvX.blk (pc' := 52) [(.iload 4, 0, 0)] (by decide +kernel) trivial ?_
      show Ev (d + 1) M_Mo_replies 0 0 52 [(2, v0), (0, v1), (0, v2), (0, v3), (0, v4)] [(0, v4)] kd m3 (zqV kd q)
      refine EvX.goto (off := 4) (tgt := 56) (by decide +kernel) (by decide) ?_
      refine EvX.blk (pc' := 60) [(.istore_n 3, 0, 0), (.iinc 4 1, 0, 0)] (by decide +kernel) trivial ?_
      show Ev (d + 1) M_Mo_replies 0 0 60 [(2, v0), (0, v1), (0, v2), (0, v4), (0, iw (v4 + 1))] [] kd m3 (zqV kd q)
      refine EvX.goto (off := (-36)) (tgt := 24) (by decide +kernel) (by decide) ?_
      exact h
set_option maxRecDepth 20000 in
set_option maxHeartbeats 1000000 in
theorem T_Mo_reply_0 {d : Nat} {kd : ZK} {m : ZM} {q : Int → ZM → Prop} {v0 v1 v2 : Int} (h : (∃ q1, CtI d M_Mo_isPlayer [(0, v1)] kd m q1 ∧ ∀ x2 m3, q1 x2 m3 → ((x2 = 0 → q (-1) m3) ∧ (¬ x2 = 0 → (zobj kd v0 8 ∧ ∃ q4, CtI d M_Mo_lays [(2, v0), (0, iw (1 - v1)), (0, v2)] kd m3 q4 ∧ ∀ x5 m6, q4 x5 m6 → ((x5 ≠ 0 → (zobj kd v0 8 ∧ ∃ q7, CtV d M_Mo_replies [(2, v0), (0, v1)] kd m6 q7 ∧ ∀ m9, q7 m9 → (zobj kd v0 8 ∧ ∃ q10, CtI d M_Mo_toldOf [(2, v0), (0, v1)] kd m9 q10 ∧ ∀ x11 m12, q10 x11 m12 → q x11 m12))) ∧ (¬ x5 ≠ 0 → q (-1) m6))))))) : Ev (d + 1) M_Mo_reply 0 0 0 [(2, v0), (0, v1), (0, v2)] [] kd m (zqI kd q) := by
  refine EvX.blk (pc' := 1) [(.iload_n 1, 0, 0)] (by decide +kernel) trivial ?_
  show Ev (d + 1) M_Mo_reply 0 0 1 [(2, v0), (0, v1), (0, v2)] [(0, v1)] kd m (zqI kd q)
  obtain ⟨q1, hq, h⟩ := h
  refine EvX.callS (mc := 0) (ms := 0) (as := [(0, v1)]) (st := []) (by decide +kernel) l_Mo_208 k_Mo_isPlayer s_Mo_isPlayer a_Mo_isPlayer (by decide) (Nat.le_of_ble_eq_true rfl) hq (fun r kd1 m3 hr => ?_)
  obtain ⟨x2, rfl, hk, hr⟩ := hr
  subst kd1
  have h := h x2 m3 hr
  show Ev (d + 1) M_Mo_reply 0 0 4 [(2, v0), (0, v1), (0, v2)] [(0, x2)] kd m3 (zqI kd q)
  refine EvX.if_eq (off := 14) (tgt := 18) (by decide +kernel) (by decide) (fun hc => ?_) (fun hc => ?_)
  · have h := h.1 hc
    refine EvX.blk (pc' := 19) [(.iconst (-1), 0, 0)] (by decide +kernel) trivial ?_
    show Ev (d + 1) M_Mo_reply 0 0 19 [(2, v0), (0, v1), (0, v2)] [(0, (-1))] kd m3 (zqI kd q)
    exact EvX.ret (r := (0, (-1))) (by decide +kernel) rfl ⟨_, rfl, rfl, h⟩
  · have h := h.2 hc
    refine EvX.blk (pc' := 12) [(.aload_n 0, 0, 0), (.iconst 1, 0, 0), (.iload_n 1, 0, 0), (.isub, 0, 0), (.iload_n 2, 0, 0)] (by decide +kernel) trivial ?_
    show Ev (d + 1) M_Mo_reply 0 0 12 [(2, v0), (0, v1), (0, v2)] [(0, v2), (0, iw (1 - v1)), (2, v0)] kd m3 (zqI kd q)
    obtain ⟨ov, h⟩ := h
    obtain ⟨q4, hq, h⟩ := h
    refine EvX.callV (c := 8) (mc := 0) (ms := 0) (as := [(0, iw (1 - v1)), (0, v2)]) (st := []) (by decide +kernel) l_Mo_229 k_Mo_lays v_Mo_lays a_Mo_lays (by decide) (Nat.le_of_ble_eq_true rfl) rfl ov hq (fun r kd1 m6 hr => ?_)
    obtain ⟨x5, rfl, hk, hr⟩ := hr
    subst kd1
    have h := h x5 m6 hr
    show Ev (d + 1) M_Mo_reply 0 0 15 [(2, v0), (0, v1), (0, v2)] [(0, x5)] kd m6 (zqI kd q)
    refine EvX.if_ne (off := 5) (tgt := 20) (by decide +kernel) (by decide) (fun hc => ?_) (fun hc => ?_)
    · have h := h.1 hc
      refine EvX.blk (pc' := 22) [(.aload_n 0, 0, 0), (.iload_n 1, 0, 0)] (by decide +kernel) trivial ?_
      show Ev (d + 1) M_Mo_reply 0 0 22 [(2, v0), (0, v1), (0, v2)] [(0, v1), (2, v0)] kd m6 (zqI kd q)
      obtain ⟨ov, h⟩ := h
      obtain ⟨q7, hq, h⟩ := h
      refine EvX.callV (c := 8) (mc := 0) (ms := 0) (as := [(0, v1)]) (st := []) (by decide +kernel) l_Mo_296 k_Mo_replies v_Mo_replies a_Mo_replies (by decide) (Nat.le_of_ble_eq_true rfl) rfl ov hq (fun r kd1 m9 hr => ?_)
      obtain ⟨rfl, hk, hr⟩ := hr
      subst kd1
      have h := h m9 hr
      show Ev (d + 1) M_Mo_reply 0 0 25 [(2, v0), (0, v1), (0, v2)] [] kd m9 (zqI kd q)
      refine EvX.blk (pc' := 27) [(.aload_n 0, 0, 0), (.iload_n 1, 0, 0)] (by decide +kernel) trivial ?_
      show Ev (d + 1) M_Mo_reply 0 0 27 [(2, v0), (0, v1), (0, v2)] [(0, v1), (2, v0)] kd m9 (zqI kd q)
      obtain ⟨ov, h⟩ := h
      obtain ⟨q10, hq, h⟩ := h
      refine EvX.callV (c := 8) (mc := 0) (ms := 0) (as := [(0, v1)]) (st := []) (by decide +kernel) l_Mo_278 k_Mo_toldOf v_Mo_toldOf a_Mo_toldOf (by decide) (Nat.le_of_ble_eq_true rfl) rfl ov hq (fun r kd1 m12 hr => ?_)
      obtain ⟨x11, rfl, hk, hr⟩ := hr
      subst kd1
      have h := h x11 m12 hr
      show Ev (d + 1) M_Mo_reply 0 0 30 [(2, v0), (0, v1), (0, v2)] [(0, x11)] kd m12 (zqI kd q)
      exact EvX.ret (r := (0, x11)) (by decide +kernel) rfl ⟨_, rfl, rfl, h⟩
    · have h := h.2 hc
      refine EvX.blk (pc' := 19) [(.iconst (-1), 0, 0)] (by decide +kernel) trivial ?_
      show Ev (d + 1) M_Mo_reply 0 0 19 [(2, v0), (0, v1), (0, v2)] [(0, (-1))] kd m6 (zqI kd q)
      exact EvX.ret (r := (0, (-1))) (by decide +kernel) rfl ⟨_, rfl, rfl, h⟩
theorem S_Mo_reply {d : Nat} {kd : ZK} {m : ZM} {q : Int → ZM → Prop} {v0 v1 v2 : Int} (h : (∃ q1, CtI d M_Mo_isPlayer [(0, v1)] kd m q1 ∧ ∀ x2 m3, q1 x2 m3 → ((x2 = 0 → q (-1) m3) ∧ (¬ x2 = 0 → (zobj kd v0 8 ∧ ∃ q4, CtI d M_Mo_lays [(2, v0), (0, iw (1 - v1)), (0, v2)] kd m3 q4 ∧ ∀ x5 m6, q4 x5 m6 → ((x5 ≠ 0 → (zobj kd v0 8 ∧ ∃ q7, CtV d M_Mo_replies [(2, v0), (0, v1)] kd m6 q7 ∧ ∀ m9, q7 m9 → (zobj kd v0 8 ∧ ∃ q10, CtI d M_Mo_toldOf [(2, v0), (0, v1)] kd m9 q10 ∧ ∀ x11 m12, q10 x11 m12 → q x11 m12))) ∧ (¬ x5 ≠ 0 → q (-1) m6))))))) : CtI (d + 1) M_Mo_reply [(2, v0), (0, v1), (0, v2)] kd m q :=
  Ct.start k_Mo_reply (Nat.le_of_ble_eq_true rfl) ⟨1, Or.inr (Or.inl ⟨rfl, rfl⟩)⟩ (T_Mo_reply_0 h)
