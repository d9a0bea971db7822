/-! TREES of ApartGames$Table: by program (wip/whole/gen_trees.py) -/
set_option maxRecDepth 20000 in
set_option maxHeartbeats 1000000 in
theorem T_Table_setSizes_0 {d : Nat} {kd : ZK} {m : ZM} {q : ZM → Prop} {v0 v1 v2 v3 v4 : Int} (h : (zobj kd v0 5 ∧ zobj kd v0 5 ∧ zobj kd v0 5 ∧ zobj kd v0 5 ∧ zobj kd v0 5 ∧ q (zup (zup (zup (zup (zup m v0 0 v1) v0 1 v2) v0 2 v3) v0 3 v4) v0 4 (iw (v3 * v4))))) : Ev (d + 1) M_Table_setSizes 0 0 0 [(2, v0), (0, v1), (0, v2), (0, v3), (0, v4)] [] kd m (zqV kd q) := by
  obtain ⟨o1, o2, o3, o4, o5, h⟩ := h
  refine EvX.blk (pc' := 29) [(.aload_n 0, 0, 0), (.iload_n 1, 0, 0), (.putfield 9, 5, 0), (.aload_n 0, 0, 0), (.iload_n 2, 0, 0), (.putfield 15, 5, 1), (.aload_n 0, 0, 0), (.iload_n 3, 0, 0), (.putfield 18, 5, 2), (.aload_n 0, 0, 0), (.iload 4, 0, 0), (.putfield 21, 5, 3), (.aload_n 0, 0, 0), (.iload_n 3, 0, 0), (.iload 4, 0, 0), (.imul, 0, 0), (.putfield 24, 5, 4)] (by decide +kernel) ⟨⟨g_Table_9, p_Table_9⟩, ⟨g_Table_15, p_Table_15⟩, ⟨g_Table_18, p_Table_18⟩, ⟨g_Table_21, p_Table_21⟩, ⟨g_Table_24, p_Table_24⟩, trivial⟩ ⟨rfl, o1, rfl, o2, rfl, o3, rfl, o4, rfl, o5, ?_⟩
  show Ev (d + 1) M_Table_setSizes 0 0 29 [(2, v0), (0, v1), (0, v2), (0, v3), (0, v4)] [] kd (zup (zup (zup (zup (zup m v0 0 v1) v0 1 v2) v0 2 v3) v0 3 v4) v0 4 (iw (v3 * v4))) (zqV kd q)
  exact EvX.ret (r := zJ) (by decide +kernel) rfl ⟨rfl, rfl, h⟩
theorem S_Table_setSizes {d : Nat} {kd : ZK} {m : ZM} {q : ZM → Prop} {v0 v1 v2 v3 v4 : Int} (h : (zobj kd v0 5 ∧ zobj kd v0 5 ∧ zobj kd v0 5 ∧ zobj kd v0 5 ∧ zobj kd v0 5 ∧ q (zup (zup (zup (zup (zup m v0 0 v1) v0 1 v2) v0 2 v3) v0 3 v4) v0 4 (iw (v3 * v4))))) : CtV (d + 1) M_Table_setSizes [(2, v0), (0, v1), (0, v2), (0, v3), (0, v4)] kd m q :=
  Ct.start k_Table_setSizes (Nat.le_of_ble_eq_true rfl) ⟨0, Or.inl ⟨rfl, rfl⟩⟩ (T_Table_setSizes_0 h)
set_option maxRecDepth 20000 in
set_option maxHeartbeats 1000000 in
theorem T_Table_loadSome_0 {d : Nat} {kd : ZK} {m : ZM} {q : ZM → Prop} {v0 v1 v2 v3 : Int} (h : (zobj kd v1 1 ∧ ∃ q1, CtI d M_Game_answersOf [(2, v1), (0, v2)] kd m q1 ∧ ∀ x2 m3, q1 x2 m3 → (zobj kd v1 1 ∧ ∃ q4, CtI d M_Game_questionsOf [(2, v1), (0, iw (1 - v2))] kd m3 q4 ∧ ∀ x5 m6, q4 x5 m6 → (zobj kd v1 1 ∧ ∃ q7, CtI d M_Game_answersOf [(2, v1), (0, iw (1 - v2))] kd m6 q7 ∧ ∀ x8 m9, q7 x8 m9 → (zobj kd v0 5 ∧ ∃ q10, CtV d M_Table_setSizes [(2, v0), (0, 0), (0, x2), (0, x5), (0, x8)] kd m9 q10 ∧ ∀ m12, q10 m12 → (Ev (d + 1) M_Table_loadSome 0 0 27 [(2, v0), (2, v1), (0, v2), (0, v3), (0, 0)] [] kd m12 (zqV kd q))))))) : Ev (d + 1) M_Table_loadSome 0 0 0 [(2, v0), (2, v1), (0, v2), (0, v3), zJ] [] kd m (zqV kd q) := by
  refine EvX.blk (pc' := 4) [(.aload_n 0, 0, 0), (.iconst 0, 0, 0), (.aload_n 1, 0, 0), (.iload_n 2, 0, 0)] (by decide +kernel) trivial ?_
  show Ev (d + 1) M_Table_loadSome 0 0 4 [(2, v0), (2, v1), (0, v2), (0, v3), zJ] [(0, v2), (2, v1), (0, 0), (2, v0)] kd m (zqV kd q)
  obtain ⟨ov, h⟩ := h
  obtain ⟨q1, hq, h⟩ := h
  refine EvX.callV (c := 1) (mc := 0) (ms := 0) (as := [(0, v2)]) (st := [(0, 0), (2, v0)]) (by decide +kernel) l_Table_50 k_Game_answersOf v_Game_answersOf a_Game_answersOf (by decide) (Nat.le_of_ble_eq_true rfl) rfl ov hq (fun r kd1 m3 hr => ?_)
  obtain ⟨x2, rfl, hk, hr⟩ := hr
  subst kd1
  have h := h x2 m3 hr
  show Ev (d + 1) M_Table_loadSome 0 0 7 [(2, v0), (2, v1), (0, v2), (0, v3), zJ] [(0, x2), (0, 0), (2, v0)] kd m3 (zqV kd q)
  refine EvX.blk (pc' := 11) [(.aload_n 1, 0, 0), (.iconst 1, 0, 0), (.iload_n 2, 0, 0), (.isub, 0, 0)] (by decide +kernel) trivial ?_
  show Ev (d + 1) M_Table_loadSome 0 0 11 [(2, v0), (2, v1), (0, v2), (0, v3), zJ] [(0, iw (1 - v2)), (2, v1), (0, x2), (0, 0), (2, v0)] kd m3 (zqV kd q)
  obtain ⟨ov, h⟩ := h
  obtain ⟨q4, hq, h⟩ := h
  refine EvX.callV (c := 1) (mc := 0) (ms := 0) (as := [(0, iw (1 - v2))]) (st := [(0, x2), (0, 0), (2, v0)]) (by decide +kernel) l_Table_56 k_Game_questionsOf v_Game_questionsOf a_Game_questionsOf (by decide) (Nat.le_of_ble_eq_true rfl) rfl ov hq (fun r kd1 m6 hr => ?_)
  obtain ⟨x5, rfl, hk, hr⟩ := hr
  subst kd1
  have h := h x5 m6 hr
  show Ev (d + 1) M_Table_loadSome 0 0 14 [(2, v0), (2, v1), (0, v2), (0, v3), zJ] [(0, x5), (0, x2), (0, 0), (2, v0)] kd m6 (zqV kd q)
  refine EvX.blk (pc' := 18) [(.aload_n 1, 0, 0), (.iconst 1, 0, 0), (.iload_n 2, 0, 0), (.isub, 0, 0)] (by decide +kernel) trivial ?_
  show Ev (d + 1) M_Table_loadSome 0 0 18 [(2, v0), (2, v1), (0, v2), (0, v3), zJ] [(0, iw (1 - v2)), (2, v1), (0, x5), (0, x2), (0, 0), (2, v0)] kd m6 (zqV kd q)
  obtain ⟨ov, h⟩ := h
  obtain ⟨q7, hq, h⟩ := h
  refine EvX.callV (c := 1) (mc := 0) (ms := 0) (as := [(0, iw (1 - v2))]) (st := [(0, x5), (0, x2), (0, 0), (2, v0)]) (by decide +kernel) l_Table_50 k_Game_answersOf v_Game_answersOf a_Game_answersOf (by decide) (Nat.le_of_ble_eq_true rfl) rfl ov hq (fun r kd1 m9 hr => ?_)
  obtain ⟨x8, rfl, hk, hr⟩ := hr
  subst kd1
  have h := h x8 m9 hr
  show Ev (d + 1) M_Table_loadSome 0 0 21 [(2, v0), (2, v1), (0, v2), (0, v3), zJ] [(0, x8), (0, x5), (0, x2), (0, 0), (2, v0)] kd m9 (zqV kd q)
  obtain ⟨ov, h⟩ := h
  obtain ⟨q10, hq, h⟩ := h
  refine EvX.callV (c := 5) (mc := 0) (ms := 0) (as := [(0, 0), (0, x2), (0, x5), (0, x8)]) (st := []) (by decide +kernel) l_Table_59 k_Table_setSizes v_Table_setSizes a_Table_setSizes (by decide) (Nat.le_of_ble_eq_true rfl) rfl ov hq (fun r kd1 m12 hr => ?_)
  obtain ⟨rfl, hk, hr⟩ := hr
  subst kd1
  have h := h m12 hr
  show Ev (d + 1) M_Table_loadSome 0 0 24 [(2, v0), (2, v1), (0, v2), (0, v3), zJ] [] kd m12 (zqV kd q)
  refine EvX.blk (pc' := 27) [(.iconst 0, 0, 0), (.istore 4, 0, 0)] (by decide +kernel) trivial ?_
  show Ev (d + 1) M_Table_loadSome 0 0 27 [(2, v0), (2, v1), (0, v2), (0, v3), (0, 0)] [] kd m12 (zqV kd q)
  exact h
theorem S_Table_loadSome {d : Nat} {kd : ZK} {m : ZM} {q : ZM → Prop} {v0 v1 v2 v3 : Int} (h : (zobj kd v1 1 ∧ ∃ q1, CtI d M_Game_answersOf [(2, v1), (0, v2)] kd m q1 ∧ ∀ x2 m3, q1 x2 m3 → (zobj kd v1 1 ∧ ∃ q4, CtI d M_Game_questionsOf [(2, v1), (0, iw (1 - v2))] kd m3 q4 ∧ ∀ x5 m6, q4 x5 m6 → (zobj kd v1 1 ∧ ∃ q7, CtI d M_Game_answersOf [(2, v1), (0, iw (1 - v2))] kd m6 q7 ∧ ∀ x8 m9, q7 x8 m9 → (zobj kd v0 5 ∧ ∃ q10, CtV d M_Table_setSizes [(2, v0), (0, 0), (0, x2), (0, x5), (0, x8)] kd m9 q10 ∧ ∀ m12, q10 m12 → (Ev (d + 1) M_Table_loadSome 0 0 27 [(2, v0), (2, v1), (0, v2), (0, v3), (0, 0)] [] kd m12 (zqV kd q))))))) : CtV (d + 1) M_Table_loadSome [(2, v0), (2, v1), (0, v2), (0, v3)] kd m q :=
  Ct.start k_Table_loadSome (Nat.le_of_ble_eq_true rfl) ⟨0, Or.inl ⟨rfl, rfl⟩⟩ (T_Table_loadSome_0 h)
set_option maxRecDepth 20000 in
set_option maxHeartbeats 1000000 in
theorem T_Table_loadSome_27 {d : Nat} {kd : ZK} {m : ZM} {q : ZM → Prop} {v0 v1 v2 v3 v4 : Int} (h : (zobj kd v1 1 ∧ ∃ q1, CtI d M_Game_questionsOf [(2, v1), (0, v2)] kd m q1 ∧ ∀ x2 m3, q1 x2 m3 → ((x2 ≤ v4 → q m3) ∧ (¬ x2 ≤ v4 → (((zand (zshr v3 v4) 1) ≠ 1 → (Ev (d + 1) M_Table_loadSome 0 0 27 [(2, v0), (2, v1), (0, v2), (0, v3), (0, iw (v4 + 1))] [] kd m3 (zqV kd q))) ∧ (¬ (zand (zshr v3 v4) 1) ≠ 1 → (zobj kd v0 5 ∧ ∃ q4, CtV d M_Table_loadQuestion [(2, v0), (2, v1), (0, v2), (0, v4)] kd m3 q4 ∧ ∀ m6, q4 m6 → (zobj kd v0 5 ∧ zobj kd v0 5 ∧ (Ev (d + 1) M_Table_loadSome 0 0 27 [(2, v0), (2, v1), (0, v2), (0, v3), (0, iw (v4 + 1))] [] kd (zup m6 v0 0 (iw ((m6 v0 0) + 1))) (zqV kd q)))))))))) : Ev (d + 1) M_Table_loadSome 0 0 27 [(2, v0), (2, v1), (0, v2), (0, v3), (0, v4)] [] kd m (zqV kd q) := by
  refine EvX.blk (pc' := 31) [(.iload 4, 0, 0), (.aload_n 1, 0, 0), (.iload_n 2, 0, 0)] (by decide +kernel) trivial ?_
  show Ev (d + 1) M_Table_loadSome 0 0 31 [(2, v0), (2, v1), (0, v2), (0, v3), (0, v4)] [(0, v2), (2, v1), (0, v4)] kd m (zqV kd q)
  obtain ⟨ov, h⟩ := h
  obtain ⟨q1, hq, h⟩ := h
  refine EvX.callV (c := 1) (mc := 0) (ms := 0) (as := [(0, v2)]) (st := [(0, v4)]) (by decide +kernel) l_Table_56 k_Game_questionsOf v_Game_questionsOf a_Game_questionsOf (by decide) (Nat.le_of_ble_eq_true rfl) rfl ov hq (fun r kd1 m3 hr => ?_)
  obtain ⟨x2, rfl, hk, hr⟩ := hr
  subst kd1
  have h := h x2 m3 hr
  show Ev (d + 1) M_Table_loadSome 0 0 34 [(2, v0), (2, v1), (0, v2), (0, v3), (0, v4)] [(0, x2), (0, v4)] kd m3 (zqV kd q)
  refine EvX.icmp_ge (off := 37) (tgt := 71) (by decide +kernel) (by decide) (fun hc => ?_) (fun hc => ?_)
  · have h := h.1 hc
    exact EvX.ret (r := zJ) (by decide +kernel) rfl ⟨rfl, rfl, h⟩
  · have h := h.2 hc
    refine EvX.blk (pc' := 44) [(.iload_n 3, 0, 0), (.iload 4, 0, 0), (.ishr, 0, 0), (.iconst 1, 0, 0), (.iand, 0, 0), (.iconst 1, 0, 0)] (by decide +kernel) trivial ?_
    show Ev (d + 1) M_Table_loadSome 0 0 44 [(2, v0), (2, v1), (0, v2), (0, v3), (0, v4)] [(0, 1), (0, zand (zshr v3 v4) 1)] kd m3 (zqV kd q)
    refine EvX.icmp_ne (off := 21) (tgt := 65) (by decide +kernel) (by decide) (fun hc => ?_) (fun hc => ?_)
    · have h := h.1 hc
      refine EvX.blk (pc' := 68) [(.iinc 4 1, 0, 0)] (by decide +kernel) trivial ?_
      show Ev (d + 1) M_Table_loadSome 0 0 68 [(2, v0), (2, v1), (0, v2), (0, v3), (0, iw (v4 + 1))] [] kd m3 (zqV kd q)
      refine EvX.goto (off := (-41)) (tgt := 27) (by decide +kernel) (by decide) ?_
      exact h
    · have h := h.2 hc
      refine EvX.blk (pc' := 52) [(.aload_n 0, 0, 0), (.aload_n 1, 0, 0), (.iload_n 2, 0, 0), (.iload 4, 0, 0)] (by decide +kernel) trivial ?_
      show Ev (d + 1) M_Table_loadSome 0 0 52 [(2, v0), (2, v1), (0, v2), (0, v3), (0, v4)] [(0, v4), (0, v2), (2, v1), (2, v0)] kd m3 (zqV kd q)
      obtain ⟨ov, h⟩ := h
      obtain ⟨q4, hq, h⟩ := h
      refine EvX.callV (c := 5) (mc := 0) (ms := 0) (as := [(2, v1), (0, v2), (0, v4)]) (st := []) (by decide +kernel) l_Table_63 k_Table_loadQuestion v_Table_loadQuestion a_Table_loadQuestion (by decide) (Nat.le_of_ble_eq_true rfl) rfl ov hq (fun r kd1 m6 hr => ?_)
      obtain ⟨rfl, hk, hr⟩ := hr
      subst kd1
      have h := h m6 hr
      show Ev (d + 1) M_Table_loadSome 0 0 55 [(2, v0), (2, v1), (0, v2), (0, v3), (0, v4)] [] kd m6 (zqV kd q)
      obtain ⟨o1, o2, h⟩ := h
      refine EvX.blk (pc' := 68) [(.aload_n 0, 0, 0), (.dup, 0, 0), (.getfield 9, 5, 0), (.iconst 1, 0, 0), (.iadd, 0, 0), (.putfield 9, 5, 0), (.iinc 4 1, 0, 0)] (by decide +kernel) ⟨g_Table_9, ⟨g_Table_9, p_Table_9⟩, trivial⟩ ⟨o1, rfl, o2, ?_⟩
      show Ev (d + 1) M_Table_loadSome 0 0 68 [(2, v0), (2, v1), (0, v2), (0, v3), (0, iw (v4 + 1))] [] kd (zup m6 v0 0 (iw ((m6 v0 0) + 1))) (zqV kd q)
      refine EvX.goto (off := (-41)) (tgt := 27) (by decide +kernel) (by decide) ?_
      exact h
set_option maxRecDepth 20000 in
set_option maxHeartbeats 1000000 in
theorem T_Table_loadQuestion_0 {d : Nat} {kd : ZK} {m : ZM} {q : ZM → Prop} {v0 v1 v2 v3 : Int} (h : (zobj kd v0 5 ∧ zobj kd v0 5 ∧ zobj kd v0 5 ∧ (Ev (d + 1) M_Table_loadQuestion 0 0 19 [(2, v0), (2, v1), (0, v2), (0, v3), (0, iw ((iw ((m v0 0) * (m v0 1))) * (m v0 4))), (0, 0), zJ, zJ] [] kd m (zqV kd q)))) : Ev (d + 1) M_Table_loadQuestion 0 0 0 [(2, v0), (2, v1), (0, v2), (0, v3), zJ, zJ, zJ, zJ] [] kd m (zqV kd q) := by
  obtain ⟨o1, o2, o3, h⟩ := h
  refine EvX.blk (pc' := 19) [(.aload_n 0, 0, 0), (.getfield 9, 5, 0), (.aload_n 0, 0, 0), (.getfield 15, 5, 1), (.imul, 0, 0), (.aload_n 0, 0, 0), (.getfield 24, 5, 4), (.imul, 0, 0), (.istore 4, 0, 0), (.iconst 0, 0, 0), (.istore 5, 0, 0)] (by decide +kernel) ⟨g_Table_9, g_Table_15, g_Table_24, trivial⟩ ⟨o1, o2, o3, ?_⟩
  show Ev (d + 1) M_Table_loadQuestion 0 0 19 [(2, v0), (2, v1), (0, v2), (0, v3), (0, iw ((iw ((m v0 0) * (m v0 1))) * (m v0 4))), (0, 0), zJ, zJ] [] kd m (zqV kd q)
  exact h
theorem S_Table_loadQuestion {d : Nat} {kd : ZK} {m : ZM} {q : ZM → Prop} {v0 v1 v2 v3 : Int} (h : (zobj kd v0 5 ∧ zobj kd v0 5 ∧ zobj kd v0 5 ∧ (Ev (d + 1) M_Table_loadQuestion 0 0 19 [(2, v0), (2, v1), (0, v2), (0, v3), (0, iw ((iw ((m v0 0) * (m v0 1))) * (m v0 4))), (0, 0), zJ, zJ] [] kd m (zqV kd q)))) : CtV (d + 1) M_Table_loadQuestion [(2, v0), (2, v1), (0, v2), (0, v3)] kd m q :=
  Ct.start k_Table_loadQuestion (Nat.le_of_ble_eq_true rfl) ⟨0, Or.inl ⟨rfl, rfl⟩⟩ (T_Table_loadQuestion_0 h)
set_option maxRecDepth 20000 in
set_option maxHeartbeats 1000000 in
theorem T_Table_loadQuestion_19 {d : Nat} {kd : ZK} {m : ZM} {q : ZM → Prop} {v0 v1 v2 v3 v4 v5 : Int} (h : (zobj kd v0 5 ∧ (((m v0 1) ≤ v5 → q m) ∧ (¬ (m v0 1) ≤ v5 → (Ev (d + 1) M_Table_loadQuestion 0 0 31 [(2, v0), (2, v1), (0, v2), (0, v3), (0, v4), (0, v5), (0, 0), zJ] [] kd m (zqV kd q)))))) : Ev (d + 1) M_Table_loadQuestion 0 0 19 [(2, v0), (2, v1), (0, v2), (0, v3), (0, v4), (0, v5), zJ, zJ] [] kd m (zqV kd q) := by
  obtain ⟨o1, h⟩ := h
  refine EvX.blk (pc' := 25) [(.iload 5, 0, 0), (.aload_n 0, 0, 0), (.getfield 15, 5, 1)] (by decide +kernel) ⟨g_Table_15, trivial⟩ ⟨o1, ?_⟩
  show Ev (d + 1) M_Table_loadQuestion 0 0 25 [(2, v0), (2, v1), (0, v2), (0, v3), (0, v4), (0, v5), zJ, zJ] [(0, m v0 1), (0, v5)] kd m (zqV kd q)
  refine EvX.icmp_ge (off := 67) (tgt := 92) (by decide +kernel) (by decide) (fun hc => ?_) (fun hc => ?_)
  · have h := h.1 hc
    exact EvX.ret (r := zJ) (by decide +kernel) rfl ⟨rfl, rfl, h⟩
  · have h := h.2 hc
    refine EvX.blk (pc' := 31) [(.iconst 0, 0, 0), (.istore 6, 0, 0)] (by decide +kernel) trivial ?_
    show Ev (d + 1) M_Table_loadQuestion 0 0 31 [(2, v0), (2, v1), (0, v2), (0, v3), (0, v4), (0, v5), (0, 0), zJ] [] kd m (zqV kd q)
    exact h
set_option maxRecDepth 20000 in
set_option maxHeartbeats 1000000 in
theorem T_Table_loadQuestion_31 {d : Nat} {kd : ZK} {m : ZM} {q : ZM → Prop} {v0 v1 v2 v3 v4 v5 v6 : Int} (h : (zobj kd v0 5 ∧ (((m v0 2) ≤ v6 → (Ev (d + 1) M_Table_loadQuestion 0 0 19 [(2, v0), (2, v1), (0, v2), (0, v3), (0, v4), (0, iw (v5 + 1)), zJ, zJ] [] kd m (zqV kd q))) ∧ (¬ (m v0 2) ≤ v6 → (Ev (d + 1) M_Table_loadQuestion 0 0 43 [(2, v0), (2, v1), (0, v2), (0, v3), (0, v4), (0, v5), (0, v6), (0, 0)] [] kd m (zqV kd q)))))) : Ev (d + 1) M_Table_loadQuestion 0 0 31 [(2, v0), (2, v1), (0, v2), (0, v3), (0, v4), (0, v5), (0, v6), zJ] [] kd m (zqV kd q) := by
  obtain ⟨o1, h⟩ := h
  refine EvX.blk (pc' := 37) [(.iload 6, 0, 0), (.aload_n 0, 0, 0), (.getfield 18, 5, 2)] (by decide +kernel) ⟨g_Table_18, trivial⟩ ⟨o1, ?_⟩
  show Ev (d + 1) M_Table_loadQuestion 0 0 37 [(2, v0), (2, v1), (0, v2), (0, v3), (0, v4), (0, v5), (0, v6), zJ] [(0, m v0 2), (0, v6)] kd m (zqV kd q)
  refine EvX.icmp_ge (off := 49) (tgt := 86) (by decide +kernel) (by decide) (fun hc => ?_) (fun hc => ?_)
  · have h := h.1 hc
    refine EvX.blk (pc' := 89) [(.iinc 5 1, 0, 0)] (by decide +kernel) trivial ?_
    show Ev (d + 1) M_Table_loadQuestion 0 0 89 [(2, v0), (2, v1), (0, v2), (0, v3), (0, v4), (0, iw (v5 + 1)), (0, v6), zJ] [] kd m (zqV kd q)
    refine EvX.goto (off := (-70)) (tgt := 19) (by decide +kernel) (by decide) ?_
    exact EvX.weak (ls2 := [(2, v0), (2, v1), (0, v2), (0, v3), (0, v4), (0, iw (v5 + 1)), zJ, zJ]) (zwk_of ⟨Or.inr rfl, Or.inr rfl, Or.inr rfl, Or.inr rfl, Or.inr rfl, Or.inr rfl, Or.inl rfl, Or.inl rfl, trivial⟩) h
  · have h := h.2 hc
    refine EvX.blk (pc' := 43) [(.iconst 0, 0, 0), (.istore 7, 0, 0)] (by decide +kernel) trivial ?_
    show Ev (d + 1) M_Table_loadQuestion 0 0 43 [(2, v0), (2, v1), (0, v2), (0, v3), (0, v4), (0, v5), (0, v6), (0, 0)] [] kd m (zqV kd q)
    exact h
set_option maxRecDepth 20000 in
set_option maxHeartbeats 1000000 in
theorem T_Table_loadQuestion_43 {d : Nat} {kd : ZK} {m : ZM} {q : ZM → Prop} {v0 v1 v2 v3 v4 v5 v6 v7 : Int} (h : (zobj kd v0 5 ∧ (((m v0 3) ≤ v7 → (Ev (d + 1) M_Table_loadQuestion 0 0 31 [(2, v0), (2, v1), (0, v2), (0, v3), (0, v4), (0, v5), (0, iw (v6 + 1)), zJ] [] kd m (zqV kd q))) ∧ (¬ (m v0 3) ≤ v7 → (zobj kd v0 5 ∧ (zobj kd v1 1 ∧ ∃ q1, CtI d M_Game_gain [(2, v1), (0, v2), (0, v3), (0, v6), (0, v5), (0, v7)] kd m q1 ∧ ∀ x2 m3, q1 x2 m3 → (zIn kd (m v0 5) 0 v4 ∧ (Ev (d + 1) M_Table_loadQuestion 0 0 43 [(2, v0), (2, v1), (0, v2), (0, v3), (0, iw (v4 + 1)), (0, v5), (0, v6), (0, iw (v7 + 1))] [] kd (zup m3 (m v0 5) v4 x2) (zqV kd q))))))))) : Ev (d + 1) M_Table_loadQuestion 0 0 43 [(2, v0), (2, v1), (0, v2), (0, v3), (0, v4), (0, v5), (0, v6), (0, v7)] [] kd m (zqV kd q) := by
  obtain ⟨o1, h⟩ := h
  refine EvX.blk (pc' := 49) [(.iload 7, 0, 0), (.aload_n 0, 0, 0), (.getfield 21, 5, 3)] (by decide +kernel) ⟨g_Table_21, trivial⟩ ⟨o1, ?_⟩
  show Ev (d + 1) M_Table_loadQuestion 0 0 49 [(2, v0), (2, v1), (0, v2), (0, v3), (0, v4), (0, v5), (0, v6), (0, v7)] [(0, m v0 3), (0, v7)] kd m (zqV kd q)
  refine EvX.icmp_ge (off := 31) (tgt := 80) (by decide +kernel) (by decide) (fun hc => ?_) (fun hc => ?_)
  · have h := h.1 hc
    refine EvX.blk (pc' := 83) [(.iinc 6 1, 0, 0)] (by decide +kernel) trivial ?_
    show Ev (d + 1) M_Table_loadQuestion 0 0 83 [(2, v0), (2, v1), (0, v2), (0, v3), (0, v4), (0, v5), (0, iw (v6 + 1)), (0, v7)] [] kd m (zqV kd q)
    refine EvX.goto (off := (-52)) (tgt := 31) (by decide +kernel) (by decide) ?_
    exact EvX.weak (ls2 := [(2, v0), (2, v1), (0, v2), (0, v3), (0, v4), (0, v5), (0, iw (v6 + 1)), zJ]) (zwk_of ⟨Or.inr rfl, Or.inr rfl, Or.inr rfl, Or.inr rfl, Or.inr rfl, Or.inr rfl, Or.inr rfl, Or.inl rfl, trivial⟩) h
  · have h := h.2 hc
    obtain ⟨o1, h⟩ := h
    refine EvX.blk (pc' := 67) [(.aload_n 0, 0, 0), (.getfield 27, 5, 5), (.iload 4, 0, 0), (.aload_n 1, 0, 0), (.iload_n 2, 0, 0), (.iload_n 3, 0, 0), (.iload 6, 0, 0), (.iload 5, 0, 0), (.iload 7, 0, 0)] (by decide +kernel) ⟨g_Table_27, trivial⟩ ⟨o1, ?_⟩
    show Ev (d + 1) M_Table_loadQuestion 0 0 67 [(2, v0), (2, v1), (0, v2), (0, v3), (0, v4), (0, v5), (0, v6), (0, v7)] [(0, v7), (0, v5), (0, v6), (0, v3), (0, v2), (2, v1), (0, v4), (2, m v0 5)] kd m (zqV kd q)
    obtain ⟨ov, h⟩ := h
    obtain ⟨q1, hq, h⟩ := h
    refine EvX.callV (c := 1) (mc := 0) (ms := 0) (as := [(0, v2), (0, v3), (0, v6), (0, v5), (0, v7)]) (st := [(0, v4), (2, m v0 5)]) (by decide +kernel) l_Table_67 k_Game_gain v_Game_gain a_Game_gain (by decide) (Nat.le_of_ble_eq_true rfl) rfl ov hq (fun r kd1 m3 hr => ?_)
    obtain ⟨x2, rfl, hk, hr⟩ := hr
    subst kd1
    have h := h x2 m3 hr
    show Ev (d + 1) M_Table_loadQuestion 0 0 70 [(2, v0), (2, v1), (0, v2), (0, v3), (0, v4), (0, v5), (0, v6), (0, v7)] [(0, x2), (0, v4), (2, m v0 5)] kd m3 (zqV kd q)
    obtain ⟨o1, h⟩ := h
    refine EvX.blk (pc' := 77) [(.iastore, 0, 0), (.iinc 4 1, 0, 0), (.iinc 7 1, 0, 0)] (by decide +kernel) trivial ⟨o1, ?_⟩
    show Ev (d + 1) M_Table_loadQuestion 0 0 77 [(2, v0), (2, v1), (0, v2), (0, v3), (0, iw (v4 + 1)), (0, v5), (0, v6), (0, iw (v7 + 1))] [] kd (zup m3 (m v0 5) v4 x2) (zqV kd q)
    refine EvX.goto (off := (-34)) (tgt := 43) (by decide +kernel) (by decide) ?_
    exact h
set_option maxRecDepth 20000 in
set_option maxHeartbeats 1000000 in
theorem T_Table_loadTwice_0 {d : Nat} {kd : ZK} {m : ZM} {q : ZM → Prop} {v0 v1 v2 : Int} (h : (zobj kd v1 1 ∧ zobj kd v1 1 ∧ zobj kd v1 1 ∧ zobj kd v1 1 ∧ zobj kd v1 1 ∧ zobj kd v1 1 ∧ zobj kd v1 1 ∧ zobj kd v1 1 ∧ (zobj kd v0 5 ∧ ∃ q1, CtV d M_Table_setSizes [(2, v0), (0, iw ((m v1 0) * (m v1 0))), (0, iw ((m v1 2) * (m v1 2))), (0, iw ((m v1 1) * (m v1 1))), (0, iw ((m v1 3) * (m v1 3)))] kd m q1 ∧ ∀ m3, q1 m3 → (Ev (d + 1) M_Table_loadTwice 0 0 45 [(2, v0), (2, v1), (0, v2), (0, 0), (0, 0), zJ, zJ, zJ] [] kd m3 (zqV kd q))))) : Ev (d + 1) M_Table_loadTwice 0 0 0 [(2, v0), (2, v1), (0, v2), zJ, zJ, zJ, zJ, zJ] [] kd m (zqV kd q) := by
  obtain ⟨o1, o2, o3, o4, o5, o6, o7, o8, h⟩ := h
  refine EvX.blk (pc' := 37) [(.aload_n 0, 0, 0), (.aload_n 1, 0, 0), (.getfield 71, 1, 0), (.aload_n 1, 0, 0), (.getfield 71, 1, 0), (.imul, 0, 0), (.aload_n 1, 0, 0), (.getfield 74, 1, 2), (.aload_n 1, 0, 0), (.getfield 74, 1, 2), (.imul, 0, 0), (.aload_n 1, 0, 0), (.getfield 77, 1, 1), (.aload_n 1, 0, 0), (.getfield 77, 1, 1), (.imul, 0, 0), (.aload_n 1, 0, 0), (.getfield 80, 1, 3), (.aload_n 1, 0, 0), (.getfield 80, 1, 3), (.imul, 0, 0)] (by decide +kernel) ⟨g_Table_71, g_Table_71, g_Table_74, g_Table_74, g_Table_77, g_Table_77, g_Table_80, g_Table_80, trivial⟩ ⟨o1, o2, o3, o4, o5, o6, o7, o8, ?_⟩
  show Ev (d + 1) M_Table_loadTwice 0 0 37 [(2, v0), (2, v1), (0, v2), zJ, zJ, zJ, zJ, zJ] [(0, iw ((m v1 3) * (m v1 3))), (0, iw ((m v1 1) * (m v1 1))), (0, iw ((m v1 2) * (m v1 2))), (0, iw ((m v1 0) * (m v1 0))), (2, v0)] kd m (zqV kd q)
  obtain ⟨ov, h⟩ := h
  obtain ⟨q1, hq, h⟩ := h
  refine EvX.callV (c := 5) (mc := 0) (ms := 0) (as := [(0, iw ((m v1 0) * (m v1 0))), (0, iw ((m v1 2) * (m v1 2))), (0, iw ((m v1 1) * (m v1 1))), (0, iw ((m v1 3) * (m v1 3)))]) (st := []) (by decide +kernel) l_Table_59 k_Table_setSizes v_Table_setSizes a_Table_setSizes (by decide) (Nat.le_of_ble_eq_true rfl) rfl ov hq (fun r kd1 m3 hr => ?_)
  obtain ⟨rfl, hk, hr⟩ := hr
  subst kd1
  have h := h m3 hr
  show Ev (d + 1) M_Table_loadTwice 0 0 40 [(2, v0), (2, v1), (0, v2), zJ, zJ, zJ, zJ, zJ] [] kd m3 (zqV kd q)
  refine EvX.blk (pc' := 45) [(.iconst 0, 0, 0), (.istore_n 3, 0, 0), (.iconst 0, 0, 0), (.istore 4, 0, 0)] (by decide +kernel) trivial ?_
  show Ev (d + 1) M_Table_loadTwice 0 0 45 [(2, v0), (2, v1), (0, v2), (0, 0), (0, 0), zJ, zJ, zJ] [] kd m3 (zqV kd q)
  exact h
theorem S_Table_loadTwice {d : Nat} {kd : ZK} {m : ZM} {q : ZM → Prop} {v0 v1 v2 : Int} (h : (zobj kd v1 1 ∧ zobj kd v1 1 ∧ zobj kd v1 1 ∧ zobj kd v1 1 ∧ zobj kd v1 1 ∧ zobj kd v1 1 ∧ zobj kd v1 1 ∧ zobj kd v1 1 ∧ (zobj kd v0 5 ∧ ∃ q1, CtV d M_Table_setSizes [(2, v0), (0, iw ((m v1 0) * (m v1 0))), (0, iw ((m v1 2) * (m v1 2))), (0, iw ((m v1 1) * (m v1 1))), (0, iw ((m v1 3) * (m v1 3)))] kd m q1 ∧ ∀ m3, q1 m3 → (Ev (d + 1) M_Table_loadTwice 0 0 45 [(2, v0), (2, v1), (0, v2), (0, 0), (0, 0), zJ, zJ, zJ] [] kd m3 (zqV kd q))))) : CtV (d + 1) M_Table_loadTwice [(2, v0), (2, v1), (0, v2)] kd m q :=
  Ct.start k_Table_loadTwice (Nat.le_of_ble_eq_true rfl) ⟨0, Or.inl ⟨rfl, rfl⟩⟩ (T_Table_loadTwice_0 h)
set_option maxRecDepth 20000 in
set_option maxHeartbeats 1000000 in
theorem T_Table_loadTwice_45 {d : Nat} {kd : ZK} {m : ZM} {q : ZM → Prop} {v0 v1 v2 v3 v4 : Int} (h : (zobj kd v1 1 ∧ (((m v1 0) ≤ v4 → q m) ∧ (¬ (m v1 0) ≤ v4 → (Ev (d + 1) M_Table_loadTwice 0 0 57 [(2, v0), (2, v1), (0, v2), (0, v3), (0, v4), (0, 0), zJ, zJ] [] kd m (zqV kd q)))))) : Ev (d + 1) M_Table_loadTwice 0 0 45 [(2, v0), (2, v1), (0, v2), (0, v3), (0, v4), zJ, zJ, zJ] [] kd m (zqV kd q) := by
  obtain ⟨o1, h⟩ := h
  refine EvX.blk (pc' := 51) [(.iload 4, 0, 0), (.aload_n 1, 0, 0), (.getfield 71, 1, 0)] (by decide +kernel) ⟨g_Table_71, trivial⟩ ⟨o1, ?_⟩
  show Ev (d + 1) M_Table_loadTwice 0 0 51 [(2, v0), (2, v1), (0, v2), (0, v3), (0, v4), zJ, zJ, zJ] [(0, m v1 0), (0, v4)] kd m (zqV kd q)
  refine EvX.icmp_ge (off := 85) (tgt := 136) (by decide +kernel) (by decide) (fun hc => ?_) (fun hc => ?_)
  · have h := h.1 hc
    exact EvX.ret (r := zJ) (by decide +kernel) rfl ⟨rfl, rfl, h⟩
  · have h := h.2 hc
    refine EvX.blk (pc' := 57) [(.iconst 0, 0, 0), (.istore 5, 0, 0)] (by decide +kernel) trivial ?_
    show Ev (d + 1) M_Table_loadTwice 0 0 57 [(2, v0), (2, v1), (0, v2), (0, v3), (0, v4), (0, 0), zJ, zJ] [] kd m (zqV kd q)
    exact h
set_option maxRecDepth 20000 in
set_option maxHeartbeats 1000000 in
theorem T_Table_loadTwice_57 {d : Nat} {kd : ZK} {m : ZM} {q : ZM → Prop} {v0 v1 v2 v3 v4 v5 : Int} (h : (zobj kd v1 1 ∧ (((m v1 0) ≤ v5 → (Ev (d + 1) M_Table_loadTwice 0 0 45 [(2, v0), (2, v1), (0, v2), (0, v3), (0, iw (v4 + 1)), zJ, zJ, zJ] [] kd m (zqV kd q))) ∧ (¬ (m v1 0) ≤ v5 → (Ev (d + 1) M_Table_loadTwice 0 0 69 [(2, v0), (2, v1), (0, v2), (0, v3), (0, v4), (0, v5), (0, 0), zJ] [] kd m (zqV kd q)))))) : Ev (d + 1) M_Table_loadTwice 0 0 57 [(2, v0), (2, v1), (0, v2), (0, v3), (0, v4), (0, v5), zJ, zJ] [] kd m (zqV kd q) := by
  obtain ⟨o1, h⟩ := h
  refine EvX.blk (pc' := 63) [(.iload 5, 0, 0), (.aload_n 1, 0, 0), (.getfield 71, 1, 0)] (by decide +kernel) ⟨g_Table_71, trivial⟩ ⟨o1, ?_⟩
  show Ev (d + 1) M_Table_loadTwice 0 0 63 [(2, v0), (2, v1), (0, v2), (0, v3), (0, v4), (0, v5), zJ, zJ] [(0, m v1 0), (0, v5)] kd m (zqV kd q)
  refine EvX.icmp_ge (off := 67) (tgt := 130) (by decide +kernel) (by decide) (fun hc => ?_) (fun hc => ?_)
  · have h := h.1 hc
    refine EvX.blk (pc' := 133) [(.iinc 4 1, 0, 0)] (by decide +kernel) trivial ?_
    show Ev (d + 1) M_Table_loadTwice 0 0 133 [(2, v0), (2, v1), (0, v2), (0, v3), (0, iw (v4 + 1)), (0, v5), zJ, zJ] [] kd m (zqV kd q)
    refine EvX.goto (off := (-88)) (tgt := 45) (by decide +kernel) (by decide) ?_
    exact EvX.weak (ls2 := [(2, v0), (2, v1), (0, v2), (0, v3), (0, iw (v4 + 1)), zJ, zJ, zJ]) (zwk_of ⟨Or.inr rfl, Or.inr rfl, Or.inr rfl, Or.inr rfl, Or.inr rfl, Or.inl rfl, Or.inl rfl, Or.inl rfl, trivial⟩) h
  · have h := h.2 hc
    refine EvX.blk (pc' := 69) [(.iconst 0, 0, 0), (.istore 6, 0, 0)] (by decide +kernel) trivial ?_
    show Ev (d + 1) M_Table_loadTwice 0 0 69 [(2, v0), (2, v1), (0, v2), (0, v3), (0, v4), (0, v5), (0, 0), zJ] [] kd m (zqV kd q)
    exact h
set_option maxRecDepth 20000 in
set_option maxHeartbeats 1000000 in
theorem T_Table_loadTwice_69 {d : Nat} {kd : ZK} {m : ZM} {q : ZM → Prop} {v0 v1 v2 v3 v4 v5 v6 : Int} (h : (zobj kd v1 1 ∧ (((m v1 2) ≤ v6 → (Ev (d + 1) M_Table_loadTwice 0 0 57 [(2, v0), (2, v1), (0, v2), (0, v3), (0, v4), (0, iw (v5 + 1)), zJ, zJ] [] kd m (zqV kd q))) ∧ (¬ (m v1 2) ≤ v6 → (Ev (d + 1) M_Table_loadTwice 0 0 81 [(2, v0), (2, v1), (0, v2), (0, v3), (0, v4), (0, v5), (0, v6), (0, 0)] [] kd m (zqV kd q)))))) : Ev (d + 1) M_Table_loadTwice 0 0 69 [(2, v0), (2, v1), (0, v2), (0, v3), (0, v4), (0, v5), (0, v6), zJ] [] kd m (zqV kd q) := by
  obtain ⟨o1, h⟩ := h
  refine EvX.blk (pc' := 75) [(.iload 6, 0, 0), (.aload_n 1, 0, 0), (.getfield 74, 1, 2)] (by decide +kernel) ⟨g_Table_74, trivial⟩ ⟨o1, ?_⟩
  show Ev (d + 1) M_Table_loadTwice 0 0 75 [(2, v0), (2, v1), (0, v2), (0, v3), (0, v4), (0, v5), (0, v6), zJ] [(0, m v1 2), (0, v6)] kd m (zqV kd q)
  refine EvX.icmp_ge (off := 49) (tgt := 124) (by decide +kernel) (by decide) (fun hc => ?_) (fun hc => ?_)
  · have h := h.1 hc
    refine EvX.blk (pc' := 127) [(.iinc 5 1, 0, 0)] (by decide +kernel) trivial ?_
    show Ev (d + 1) M_Table_loadTwice 0 0 127 [(2, v0), (2, v1), (0, v2), (0, v3), (0, v4), (0, iw (v5 + 1)), (0, v6), zJ] [] kd m (zqV kd q)
    refine EvX.goto (off := (-70)) (tgt := 57) (by decide +kernel) (by decide) ?_
    exact EvX.weak (ls2 := [(2, v0), (2, v1), (0, v2), (0, v3), (0, v4), (0, iw (v5 + 1)), zJ, zJ]) (zwk_of ⟨Or.inr rfl, Or.inr rfl, Or.inr rfl, Or.inr rfl, Or.inr rfl, Or.inr rfl, Or.inl rfl, Or.inl rfl, trivial⟩) h
  · have h := h.2 hc
    refine EvX.blk (pc' := 81) [(.iconst 0, 0, 0), (.istore 7, 0, 0)] (by decide +kernel) trivial ?_
    show Ev (d + 1) M_Table_loadTwice 0 0 81 [(2, v0), (2, v1), (0, v2), (0, v3), (0, v4), (0, v5), (0, v6), (0, 0)] [] kd m (zqV kd q)
    exact h
set_option maxRecDepth 20000 in
set_option maxHeartbeats 1000000 in
theorem T_Table_loadTwice_81 {d : Nat} {kd : ZK} {m : ZM} {q : ZM → Prop} {v0 v1 v2 v3 v4 v5 v6 v7 : Int} (h : (zobj kd v1 1 ∧ (((m v1 2) ≤ v7 → (Ev (d + 1) M_Table_loadTwice 0 0 69 [(2, v0), (2, v1), (0, v2), (0, v3), (0, v4), (0, v5), (0, iw (v6 + 1)), zJ] [] kd m (zqV kd q))) ∧ (¬ (m v1 2) ≤ v7 → (zobj kd v0 5 ∧ ∃ q1, CtV d M_Table_loadTwiceLine [(2, v0), (2, v1), (0, v4), (0, v5), (0, v6), (0, v7), (0, v3), (0, v2)] kd m q1 ∧ ∀ m3, q1 m3 → (zobj kd v0 5 ∧ (Ev (d + 1) M_Table_loadTwice 0 0 81 [(2, v0), (2, v1), (0, v2), (0, iw (v3 + (m3 v0 4))), (0, v4), (0, v5), (0, v6), (0, iw (v7 + 1))] [] kd m3 (zqV kd q)))))))) : Ev (d + 1) M_Table_loadTwice 0 0 81 [(2, v0), (2, v1), (0, v2), (0, v3), (0, v4), (0, v5), (0, v6), (0, v7)] [] kd m (zqV kd q) := by
  obtain ⟨o1, h⟩ := h
  refine EvX.blk (pc' := 87) [(.iload 7, 0, 0), (.aload_n 1, 0, 0), (.getfield 74, 1, 2)] (by decide +kernel) ⟨g_Table_74, trivial⟩ ⟨o1, ?_⟩
  show Ev (d + 1) M_Table_loadTwice 0 0 87 [(2, v0), (2, v1), (0, v2), (0, v3), (0, v4), (0, v5), (0, v6), (0, v7)] [(0, m v1 2), (0, v7)] kd m (zqV kd q)
  refine EvX.icmp_ge (off := 31) (tgt := 118) (by decide +kernel) (by decide) (fun hc => ?_) (fun hc => ?_)
  · have h := h.1 hc
    refine EvX.blk (pc' := 121) [(.iinc 6 1, 0, 0)] (by decide +kernel) trivial ?_
    show Ev (d + 1) M_Table_loadTwice 0 0 121 [(2, v0), (2, v1), (0, v2), (0, v3), (0, v4), (0, v5), (0, iw (v6 + 1)), (0, v7)] [] kd m (zqV kd q)
    refine EvX.goto (off := (-52)) (tgt := 69) (by decide +kernel) (by decide) ?_
    exact EvX.weak (ls2 := [(2, v0), (2, v1), (0, v2), (0, v3), (0, v4), (0, v5), (0, iw (v6 + 1)), zJ]) (zwk_of ⟨Or.inr rfl, Or.inr rfl, Or.inr rfl, Or.inr rfl, Or.inr rfl, Or.inr rfl, Or.inr rfl, Or.inl rfl, trivial⟩) h
  · have h := h.2 hc
    refine EvX.blk (pc' := 102) [(.aload_n 0, 0, 0), (.aload_n 1, 0, 0), (.iload 4, 0, 0), (.iload 5, 0, 0), (.iload 6, 0, 0), (.iload 7, 0, 0), (.iload_n 3, 0, 0), (.iload_n 2, 0, 0)] (by decide +kernel) trivial ?_
    show Ev (d + 1) M_Table_loadTwice 0 0 102 [(2, v0), (2, v1), (0, v2), (0, v3), (0, v4), (0, v5), (0, v6), (0, v7)] [(0, v2), (0, v3), (0, v7), (0, v6), (0, v5), (0, v4), (2, v1), (2, v0)] kd m (zqV kd q)
    obtain ⟨ov, h⟩ := h
    obtain ⟨q1, hq, h⟩ := h
    refine EvX.callV (c := 5) (mc := 0) (ms := 0) (as := [(2, v1), (0, v4), (0, v5), (0, v6), (0, v7), (0, v3), (0, v2)]) (st := []) (by decide +kernel) l_Table_83 k_Table_loadTwiceLine v_Table_loadTwiceLine a_Table_loadTwiceLine (by decide) (Nat.le_of_ble_eq_true rfl) rfl ov hq (fun r kd1 m3 hr => ?_)
    obtain ⟨rfl, hk, hr⟩ := hr
    subst kd1
    have h := h m3 hr
    show Ev (d + 1) M_Table_loadTwice 0 0 105 [(2, v0), (2, v1), (0, v2), (0, v3), (0, v4), (0, v5), (0, v6), (0, v7)] [] kd m3 (zqV kd q)
    obtain ⟨o1, h⟩ := h
    refine EvX.blk (pc' := 115) [(.iload_n 3, 0, 0), (.aload_n 0, 0, 0), (.getfield 24, 5, 4), (.iadd, 0, 0), (.istore_n 3, 0, 0), (.iinc 7 1, 0, 0)] (by decide +kernel) ⟨g_Table_24, trivial⟩ ⟨o1, ?_⟩
    show Ev (d + 1) M_Table_loadTwice 0 0 115 [(2, v0), (2, v1), (0, v2), (0, iw (v3 + (m3 v0 4))), (0, v4), (0, v5), (0, v6), (0, iw (v7 + 1))] [] kd m3 (zqV kd q)
    refine EvX.goto (off := (-34)) (tgt := 81) (by decide +kernel) (by decide) ?_
    exact h
set_option maxRecDepth 20000 in
set_option maxHeartbeats 1000000 in
theorem T_Table_loadTwiceLine_0 {d : Nat} {kd : ZK} {m : ZM} {q : ZM → Prop} {v0 v1 v2 v3 v4 v5 v6 v7 : Int} (h : (Ev (d + 1) M_Table_loadTwiceLine 0 0 7 [(2, v0), (2, v1), (0, v2), (0, v3), (0, v4), (0, v5), zJ, (0, v7), (0, v6), (0, 0), zJ, zJ, zJ, zJ, zJ, zJ] [] kd m (zqV kd q))) : Ev (d + 1) M_Table_loadTwiceLine 0 0 0 [(2, v0), (2, v1), (0, v2), (0, v3), (0, v4), (0, v5), (0, v6), (0, v7), zJ, zJ, zJ, zJ, zJ, zJ, zJ, zJ] [] kd m (zqV kd q) := by
  refine EvX.blk (pc' := 7) [(.iload 6, 0, 0), (.istore 8, 0, 0), (.iconst 0, 0, 0), (.istore 9, 0, 0)] (by decide +kernel) trivial ?_
  show Ev (d + 1) M_Table_loadTwiceLine 0 0 7 [(2, v0), (2, v1), (0, v2), (0, v3), (0, v4), (0, v5), (0, v6), (0, v7), (0, v6), (0, 0), zJ, zJ, zJ, zJ, zJ, zJ] [] kd m (zqV kd q)
  exact EvX.weak (ls2 := [(2, v0), (2, v1), (0, v2), (0, v3), (0, v4), (0, v5), zJ, (0, v7), (0, v6), (0, 0), zJ, zJ, zJ, zJ, zJ, zJ]) (zwk_of ⟨Or.inr rfl, Or.inr rfl, Or.inr rfl, Or.inr rfl, Or.inr rfl, Or.inr rfl, Or.inl rfl, Or.inr rfl, Or.inr rfl, Or.inr rfl, Or.inl rfl, Or.inl rfl, Or.inl rfl, Or.inl rfl, Or.inl rfl, Or.inl rfl, trivial⟩) h
theorem S_Table_loadTwiceLine {d : Nat} {kd : ZK} {m : ZM} {q : ZM → Prop} {v0 v1 v2 v3 v4 v5 v6 v7 : Int} (h : (Ev (d + 1) M_Table_loadTwiceLine 0 0 7 [(2, v0), (2, v1), (0, v2), (0, v3), (0, v4), (0, v5), zJ, (0, v7), (0, v6), (0, 0), zJ, zJ, zJ, zJ, zJ, zJ] [] kd m (zqV kd q))) : CtV (d + 1) M_Table_loadTwiceLine [(2, v0), (2, v1), (0, v2), (0, v3), (0, v4), (0, v5), (0, v6), (0, v7)] kd m q :=
  Ct.start k_Table_loadTwiceLine (Nat.le_of_ble_eq_true rfl) ⟨0, Or.inl ⟨rfl, rfl⟩⟩ (T_Table_loadTwiceLine_0 h)
set_option maxRecDepth 20000 in
set_option maxHeartbeats 1000000 in
theorem T_Table_loadTwiceLine_7 {d : Nat} {kd : ZK} {m : ZM} {q : ZM → Prop} {v0 v1 v2 v3 v4 v5 v7 v8 v9 : Int} (h : (zobj kd v1 1 ∧ (((m v1 1) ≤ v9 → q m) ∧ (¬ (m v1 1) ≤ v9 → (Ev (d + 1) M_Table_loadTwiceLine 0 0 19 [(2, v0), (2, v1), (0, v2), (0, v3), (0, v4), (0, v5), zJ, (0, v7), (0, v8), (0, v9), (0, 0), zJ, zJ, zJ, zJ, zJ] [] kd m (zqV kd q)))))) : Ev (d + 1) M_Table_loadTwiceLine 0 0 7 [(2, v0), (2, v1), (0, v2), (0, v3), (0, v4), (0, v5), zJ, (0, v7), (0, v8), (0, v9), zJ, zJ, zJ, zJ, zJ, zJ] [] kd m (zqV kd q) := by
  obtain ⟨o1, h⟩ := h
  refine EvX.blk (pc' := 13) [(.iload 9, 0, 0), (.aload_n 1, 0, 0), (.getfield 77, 1, 1)] (by decide +kernel) ⟨g_Table_77, trivial⟩ ⟨o1, ?_⟩
  show Ev (d + 1) M_Table_loadTwiceLine 0 0 13 [(2, v0), (2, v1), (0, v2), (0, v3), (0, v4), (0, v5), zJ, (0, v7), (0, v8), (0, v9), zJ, zJ, zJ, zJ, zJ, zJ] [(0, m v1 1), (0, v9)] kd m (zqV kd q)
  refine EvX.icmp_ge (off := 157) (tgt := 170) (by decide +kernel) (by decide) (fun hc => ?_) (fun hc => ?_)
  · have h := h.1 hc
    exact EvX.ret (r := zJ) (by decide +kernel) rfl ⟨rfl, rfl, h⟩
  · have h := h.2 hc
    refine EvX.blk (pc' := 19) [(.iconst 0, 0, 0), (.istore 10, 0, 0)] (by decide +kernel) trivial ?_
    show Ev (d + 1) M_Table_loadTwiceLine 0 0 19 [(2, v0), (2, v1), (0, v2), (0, v3), (0, v4), (0, v5), zJ, (0, v7), (0, v8), (0, v9), (0, 0), zJ, zJ, zJ, zJ, zJ] [] kd m (zqV kd q)
    exact h
set_option maxRecDepth 20000 in
set_option maxHeartbeats 1000000 in
theorem T_Table_loadTwiceLine_19 {d : Nat} {kd : ZK} {m : ZM} {q : ZM → Prop} {v0 v1 v2 v3 v4 v5 v7 v8 v9 v10 : Int} (h : (zobj kd v1 1 ∧ (((m v1 1) ≤ v10 → (Ev (d + 1) M_Table_loadTwiceLine 0 0 7 [(2, v0), (2, v1), (0, v2), (0, v3), (0, v4), (0, v5), zJ, (0, v7), (0, v8), (0, iw (v9 + 1)), zJ, zJ, zJ, zJ, zJ, zJ] [] kd m (zqV kd q))) ∧ (¬ (m v1 1) ≤ v10 → (zobj kd v1 1 ∧ (∃ q1, CtI d M_Ap_cellOf [(0, 0), (0, v2), (0, v9)] kd m q1 ∧ ∀ x2 m3, q1 x2 m3 → (zIn kd (m v1 4) 0 x2 ∧ zobj kd v1 1 ∧ (∃ q4, CtI d M_Ap_cellOf [(0, 0), (0, v3), (0, v10)] kd m3 q4 ∧ ∀ x5 m6, q4 x5 m6 → (zIn kd (m3 v1 4) 0 x5 ∧ (Ev (d + 1) M_Table_loadTwiceLine 0 0 58 [(2, v0), (2, v1), (0, v2), (0, v3), (0, v4), (0, v5), zJ, (0, v7), (0, v8), (0, v9), (0, v10), (0, iw ((m3 (m v1 4) x2) * (m6 (m3 v1 4) x5))), (0, 0), zJ, zJ, zJ] [] kd m6 (zqV kd q))))))))))) : Ev (d + 1) M_Table_loadTwiceLine 0 0 19 [(2, v0), (2, v1), (0, v2), (0, v3), (0, v4), (0, v5), zJ, (0, v7), (0, v8), (0, v9), (0, v10), zJ, zJ, zJ, zJ, zJ] [] kd m (zqV kd q) := by
  obtain ⟨o1, h⟩ := h
  refine EvX.blk (pc' := 25) [(.iload 10, 0, 0), (.aload_n 1, 0, 0), (.getfield 77, 1, 1)] (by decide +kernel) ⟨g_Table_77, trivial⟩ ⟨o1, ?_⟩
  show Ev (d + 1) M_Table_loadTwiceLine 0 0 25 [(2, v0), (2, v1), (0, v2), (0, v3), (0, v4), (0, v5), zJ, (0, v7), (0, v8), (0, v9), (0, v10), zJ, zJ, zJ, zJ, zJ] [(0, m v1 1), (0, v10)] kd m (zqV kd q)
  refine EvX.icmp_ge (off := 139) (tgt := 164) (by decide +kernel) (by decide) (fun hc => ?_) (fun hc => ?_)
  · have h := h.1 hc
    refine EvX.blk (pc' := 167) [(.iinc 9 1, 0, 0)] (by decide +kernel) trivial ?_
    show Ev (d + 1) M_Table_loadTwiceLine 0 0 167 [(2, v0), (2, v1), (0, v2), (0, v3), (0, v4), (0, v5), zJ, (0, v7), (0, v8), (0, iw (v9 + 1)), (0, v10), zJ, zJ, zJ, zJ, zJ] [] kd m (zqV kd q)
    refine EvX.goto (off := (-160)) (tgt := 7) (by decide +kernel) (by decide) ?_
    exact EvX.weak (ls2 := [(2, v0), (2, v1), (0, v2), (0, v3), (0, v4), (0, v5), zJ, (0, v7), (0, v8), (0, iw (v9 + 1)), zJ, zJ, zJ, zJ, zJ, zJ]) (zwk_of ⟨Or.inr rfl, Or.inr rfl, Or.inr rfl, Or.inr rfl, Or.inr rfl, Or.inr rfl, Or.inl rfl, Or.inr rfl, Or.inr rfl, Or.inr rfl, Or.inl rfl, Or.inl rfl, Or.inl rfl, Or.inl rfl, Or.inl rfl, Or.inl rfl, trivial⟩) h
  · have h := h.2 hc
    obtain ⟨o1, h⟩ := h
    refine EvX.blk (pc' := 36) [(.aload_n 1, 0, 0), (.getfield 87, 1, 4), (.iconst 0, 0, 0), (.iload_n 2, 0, 0), (.iload 9, 0, 0)] (by decide +kernel) ⟨g_Table_87, trivial⟩ ⟨o1, ?_⟩
    show Ev (d + 1) M_Table_loadTwiceLine 0 0 36 [(2, v0), (2, v1), (0, v2), (0, v3), (0, v4), (0, v5), zJ, (0, v7), (0, v8), (0, v9), (0, v10), zJ, zJ, zJ, zJ, zJ] [(0, v9), (0, v2), (0, 0), (2, m v1 4)] kd m (zqV kd q)
    obtain ⟨q1, hq, h⟩ := h
    refine EvX.callS (mc := 0) (ms := 0) (as := [(0, 0), (0, v2), (0, v9)]) (st := [(2, m v1 4)]) (by decide +kernel) l_Table_90 k_Ap_cellOf s_Ap_cellOf a_Ap_cellOf (by decide) (Nat.le_of_ble_eq_true rfl) hq (fun r kd1 m3 hr => ?_)
    obtain ⟨x2, rfl, hk, hr⟩ := hr
    subst kd1
    have h := h x2 m3 hr
    show Ev (d + 1) M_Table_loadTwiceLine 0 0 39 [(2, v0), (2, v1), (0, v2), (0, v3), (0, v4), (0, v5), zJ, (0, v7), (0, v8), (0, v9), (0, v10), zJ, zJ, zJ, zJ, zJ] [(0, x2), (2, m v1 4)] kd m3 (zqV kd q)
    obtain ⟨o1, o2, h⟩ := h
    refine EvX.blk (pc' := 48) [(.iaload, 0, 0), (.aload_n 1, 0, 0), (.getfield 87, 1, 4), (.iconst 0, 0, 0), (.iload_n 3, 0, 0), (.iload 10, 0, 0)] (by decide +kernel) ⟨g_Table_87, trivial⟩ ⟨o1, o2, ?_⟩
    show Ev (d + 1) M_Table_loadTwiceLine 0 0 48 [(2, v0), (2, v1), (0, v2), (0, v3), (0, v4), (0, v5), zJ, (0, v7), (0, v8), (0, v9), (0, v10), zJ, zJ, zJ, zJ, zJ] [(0, v10), (0, v3), (0, 0), (2, m3 v1 4), (0, m3 (m v1 4) x2)] kd m3 (zqV kd q)
    obtain ⟨q4, hq, h⟩ := h
    refine EvX.callS (mc := 0) (ms := 0) (as := [(0, 0), (0, v3), (0, v10)]) (st := [(2, m3 v1 4), (0, m3 (m v1 4) x2)]) (by decide +kernel) l_Table_90 k_Ap_cellOf s_Ap_cellOf a_Ap_cellOf (by decide) (Nat.le_of_ble_eq_true rfl) hq (fun r kd1 m6 hr => ?_)
    obtain ⟨x5, rfl, hk, hr⟩ := hr
    subst kd1
    have h := h x5 m6 hr
    show Ev (d + 1) M_Table_loadTwiceLine 0 0 51 [(2, v0), (2, v1), (0, v2), (0, v3), (0, v4), (0, v5), zJ, (0, v7), (0, v8), (0, v9), (0, v10), zJ, zJ, zJ, zJ, zJ] [(0, x5), (2, m3 v1 4), (0, m3 (m v1 4) x2)] kd m6 (zqV kd q)
    obtain ⟨o1, h⟩ := h
    refine EvX.blk (pc' := 58) [(.iaload, 0, 0), (.imul, 0, 0), (.istore 11, 0, 0), (.iconst 0, 0, 0), (.istore 12, 0, 0)] (by decide +kernel) trivial ⟨o1, ?_⟩
    show Ev (d + 1) M_Table_loadTwiceLine 0 0 58 [(2, v0), (2, v1), (0, v2), (0, v3), (0, v4), (0, v5), zJ, (0, v7), (0, v8), (0, v9), (0, v10), (0, iw ((m3 (m v1 4) x2) * (m6 (m3 v1 4) x5))), (0, 0), zJ, zJ, zJ] [] kd m6 (zqV kd q)
    exact h
set_option maxRecDepth 20000 in
set_option maxHeartbeats 1000000 in
theorem T_Table_loadTwiceLine_58 {d : Nat} {kd : ZK} {m : ZM} {q : ZM → Prop} {v0 v1 v2 v3 v4 v5 v7 v8 v9 v10 v11 v12 : Int} (h : (zobj kd v1 1 ∧ (((m v1 3) ≤ v12 → (Ev (d + 1) M_Table_loadTwiceLine 0 0 19 [(2, v0), (2, v1), (0, v2), (0, v3), (0, v4), (0, v5), zJ, (0, v7), (0, v8), (0, v9), (0, iw (v10 + 1)), zJ, zJ, zJ, zJ, zJ] [] kd m (zqV kd q))) ∧ (¬ (m v1 3) ≤ v12 → (Ev (d + 1) M_Table_loadTwiceLine 0 0 70 [(2, v0), (2, v1), (0, v2), (0, v3), (0, v4), (0, v5), zJ, (0, v7), (0, v8), (0, v9), (0, v10), (0, v11), (0, v12), (0, 0), zJ, zJ] [] kd m (zqV kd q)))))) : Ev (d + 1) M_Table_loadTwiceLine 0 0 58 [(2, v0), (2, v1), (0, v2), (0, v3), (0, v4), (0, v5), zJ, (0, v7), (0, v8), (0, v9), (0, v10), (0, v11), (0, v12), zJ, zJ, zJ] [] kd m (zqV kd q) := by
  obtain ⟨o1, h⟩ := h
  refine EvX.blk (pc' := 64) [(.iload 12, 0, 0), (.aload_n 1, 0, 0), (.getfield 80, 1, 3)] (by decide +kernel) ⟨g_Table_80, trivial⟩ ⟨o1, ?_⟩
  show Ev (d + 1) M_Table_loadTwiceLine 0 0 64 [(2, v0), (2, v1), (0, v2), (0, v3), (0, v4), (0, v5), zJ, (0, v7), (0, v8), (0, v9), (0, v10), (0, v11), (0, v12), zJ, zJ, zJ] [(0, m v1 3), (0, v12)] kd m (zqV kd q)
  refine EvX.icmp_ge (off := 94) (tgt := 158) (by decide +kernel) (by decide) (fun hc => ?_) (fun hc => ?_)
  · have h := h.1 hc
    refine EvX.blk (pc' := 161) [(.iinc 10 1, 0, 0)] (by decide +kernel) trivial ?_
    show Ev (d + 1) M_Table_loadTwiceLine 0 0 161 [(2, v0), (2, v1), (0, v2), (0, v3), (0, v4), (0, v5), zJ, (0, v7), (0, v8), (0, v9), (0, iw (v10 + 1)), (0, v11), (0, v12), zJ, zJ, zJ] [] kd m (zqV kd q)
    refine EvX.goto (off := (-142)) (tgt := 19) (by decide +kernel) (by decide) ?_
    exact EvX.weak (ls2 := [(2, v0), (2, v1), (0, v2), (0, v3), (0, v4), (0, v5), zJ, (0, v7), (0, v8), (0, v9), (0, iw (v10 + 1)), zJ, zJ, zJ, zJ, zJ]) (zwk_of ⟨Or.inr rfl, Or.inr rfl, Or.inr rfl, Or.inr rfl, Or.inr rfl, Or.inr rfl, Or.inl rfl, Or.inr rfl, Or.inr rfl, Or.inr rfl, Or.inr rfl, Or.inl rfl, Or.inl rfl, Or.inl rfl, Or.inl rfl, Or.inl rfl, trivial⟩) h
  · have h := h.2 hc
    refine EvX.blk (pc' := 70) [(.iconst 0, 0, 0), (.istore 13, 0, 0)] (by decide +kernel) trivial ?_
    show Ev (d + 1) M_Table_loadTwiceLine 0 0 70 [(2, v0), (2, v1), (0, v2), (0, v3), (0, v4), (0, v5), zJ, (0, v7), (0, v8), (0, v9), (0, v10), (0, v11), (0, v12), (0, 0), zJ, zJ] [] kd m (zqV kd q)
    exact h
set_option maxRecDepth 20000 in
set_option maxHeartbeats 1000000 in
theorem T_Table_loadTwiceLine_70 {d : Nat} {kd : ZK} {m : ZM} {q : ZM → Prop} {v0 v1 v2 v3 v4 v5 v7 v8 v9 v10 v11 v12 v13 : Int} (h : (zobj kd v1 1 ∧ (((m v1 3) ≤ v13 → (Ev (d + 1) M_Table_loadTwiceLine 0 0 58 [(2, v0), (2, v1), (0, v2), (0, v3), (0, v4), (0, v5), zJ, (0, v7), (0, v8), (0, v9), (0, v10), (0, v11), (0, iw (v12 + 1)), zJ, zJ, zJ] [] kd m (zqV kd q))) ∧ (¬ (m v1 3) ≤ v13 → (zobj kd v1 1 ∧ (∃ q1, CtI d M_Ap_spotOf [(0, 0), (0, v2), (0, v9), (0, v4), (0, v12)] kd m q1 ∧ ∀ x2 m3, q1 x2 m3 → (zIn kd (m v1 5) 0 x2 ∧ zobj kd v1 1 ∧ (∃ q4, CtI d M_Ap_spotOf [(0, 0), (0, v3), (0, v10), (0, v5), (0, v13)] kd m3 q4 ∧ ∀ x5 m6, q4 x5 m6 → (zIn kd (m3 v1 5) 0 x5 ∧ zobj kd v0 5 ∧ ((v7 = 0 → (zIn kd (m6 v0 5) 0 v8 ∧ (Ev (d + 1) M_Table_loadTwiceLine 0 0 70 [(2, v0), (2, v1), (0, v2), (0, v3), (0, v4), (0, v5), zJ, (0, v7), (0, iw (v8 + 1)), (0, v9), (0, v10), (0, v11), (0, v12), (0, iw (v13 + 1)), zJ, zJ] [] kd (zup m6 (m6 v0 5) v8 (iw (v11 * (zand (m3 (m v1 5) x2) (m6 (m3 v1 5) x5))))) (zqV kd q)))) ∧ (¬ v7 = 0 → (zIn kd (m6 v0 5) 0 v8 ∧ (Ev (d + 1) M_Table_loadTwiceLine 0 0 70 [(2, v0), (2, v1), (0, v2), (0, v3), (0, v4), (0, v5), zJ, (0, v7), (0, iw (v8 + 1)), (0, v9), (0, v10), (0, v11), (0, v12), (0, iw (v13 + 1)), zJ, zJ] [] kd (zup m6 (m6 v0 5) v8 (iw (v11 * (zor (m3 (m v1 5) x2) (m6 (m3 v1 5) x5))))) (zqV kd q)))))))))))))) : Ev (d + 1) M_Table_loadTwiceLine 0 0 70 [(2, v0), (2, v1), (0, v2), (0, v3), (0, v4), (0, v5), zJ, (0, v7), (0, v8), (0, v9), (0, v10), (0, v11), (0, v12), (0, v13), zJ, zJ] [] kd m (zqV kd q) := by
  obtain ⟨o1, h⟩ := h
  refine EvX.blk (pc' := 76) [(.iload 13, 0, 0), (.aload_n 1, 0, 0), (.getfield 80, 1, 3)] (by decide +kernel) ⟨g_Table_80, trivial⟩ ⟨o1, ?_⟩
  show Ev (d + 1) M_Table_loadTwiceLine 0 0 76 [(2, v0), (2, v1), (0, v2), (0, v3), (0, v4), (0, v5), zJ, (0, v7), (0, v8), (0, v9), (0, v10), (0, v11), (0, v12), (0, v13), zJ, zJ] [(0, m v1 3), (0, v13)] kd m (zqV kd q)
  refine EvX.icmp_ge (off := 76) (tgt := 152) (by decide +kernel) (by decide) (fun hc => ?_) (fun hc => ?_)
  · have h := h.1 hc
    refine EvX.blk (pc' := 155) [(.iinc 12 1, 0, 0)] (by decide +kernel) trivial ?_
    show Ev (d + 1) M_Table_loadTwiceLine 0 0 155 [(2, v0), (2, v1), (0, v2), (0, v3), (0, v4), (0, v5), zJ, (0, v7), (0, v8), (0, v9), (0, v10), (0, v11), (0, iw (v12 + 1)), (0, v13), zJ, zJ] [] kd m (zqV kd q)
    refine EvX.goto (off := (-97)) (tgt := 58) (by decide +kernel) (by decide) ?_
    exact EvX.weak (ls2 := [(2, v0), (2, v1), (0, v2), (0, v3), (0, v4), (0, v5), zJ, (0, v7), (0, v8), (0, v9), (0, v10), (0, v11), (0, iw (v12 + 1)), zJ, zJ, zJ]) (zwk_of ⟨Or.inr rfl, Or.inr rfl, Or.inr rfl, Or.inr rfl, Or.inr rfl, Or.inr rfl, Or.inl rfl, Or.inr rfl, Or.inr rfl, Or.inr rfl, Or.inr rfl, Or.inr rfl, Or.inr rfl, Or.inl rfl, Or.inl rfl, Or.inl rfl, trivial⟩) h
  · have h := h.2 hc
    obtain ⟨o1, h⟩ := h
    refine EvX.blk (pc' := 91) [(.aload_n 1, 0, 0), (.getfield 94, 1, 5), (.iconst 0, 0, 0), (.iload_n 2, 0, 0), (.iload 9, 0, 0), (.iload 4, 0, 0), (.iload 12, 0, 0)] (by decide +kernel) ⟨g_Table_94, trivial⟩ ⟨o1, ?_⟩
    show Ev (d + 1) M_Table_loadTwiceLine 0 0 91 [(2, v0), (2, v1), (0, v2), (0, v3), (0, v4), (0, v5), zJ, (0, v7), (0, v8), (0, v9), (0, v10), (0, v11), (0, v12), (0, v13), zJ, zJ] [(0, v12), (0, v4), (0, v9), (0, v2), (0, 0), (2, m v1 5)] kd m (zqV kd q)
    obtain ⟨q1, hq, h⟩ := h
    refine EvX.callS (mc := 0) (ms := 0) (as := [(0, 0), (0, v2), (0, v9), (0, v4), (0, v12)]) (st := [(2, m v1 5)]) (by decide +kernel) l_Table_97 k_Ap_spotOf s_Ap_spotOf a_Ap_spotOf (by decide) (Nat.le_of_ble_eq_true rfl) hq (fun r kd1 m3 hr => ?_)
    obtain ⟨x2, rfl, hk, hr⟩ := hr
    subst kd1
    have h := h x2 m3 hr
    show Ev (d + 1) M_Table_loadTwiceLine 0 0 94 [(2, v0), (2, v1), (0, v2), (0, v3), (0, v4), (0, v5), zJ, (0, v7), (0, v8), (0, v9), (0, v10), (0, v11), (0, v12), (0, v13), zJ, zJ] [(0, x2), (2, m v1 5)] kd m3 (zqV kd q)
    obtain ⟨o1, o2, h⟩ := h
    refine EvX.blk (pc' := 109) [(.iaload, 0, 0), (.istore 14, 0, 0), (.aload_n 1, 0, 0), (.getfield 94, 1, 5), (.iconst 0, 0, 0), (.iload_n 3, 0, 0), (.iload 10, 0, 0), (.iload 5, 0, 0), (.iload 13, 0, 0)] (by decide +kernel) ⟨g_Table_94, trivial⟩ ⟨o1, o2, ?_⟩
    show Ev (d + 1) M_Table_loadTwiceLine 0 0 109 [(2, v0), (2, v1), (0, v2), (0, v3), (0, v4), (0, v5), zJ, (0, v7), (0, v8), (0, v9), (0, v10), (0, v11), (0, v12), (0, v13), (0, m3 (m v1 5) x2), zJ] [(0, v13), (0, v5), (0, v10), (0, v3), (0, 0), (2, m3 v1 5)] kd m3 (zqV kd q)
    obtain ⟨q4, hq, h⟩ := h
    refine EvX.callS (mc := 0) (ms := 0) (as := [(0, 0), (0, v3), (0, v10), (0, v5), (0, v13)]) (st := [(2, m3 v1 5)]) (by decide +kernel) l_Table_97 k_Ap_spotOf s_Ap_spotOf a_Ap_spotOf (by decide) (Nat.le_of_ble_eq_true rfl) hq (fun r kd1 m6 hr => ?_)
    obtain ⟨x5, rfl, hk, hr⟩ := hr
    subst kd1
    have h := h x5 m6 hr
    show Ev (d + 1) M_Table_loadTwiceLine 0 0 112 [(2, v0), (2, v1), (0, v2), (0, v3), (0, v4), (0, v5), zJ, (0, v7), (0, v8), (0, v9), (0, v10), (0, v11), (0, v12), (0, v13), (0, m3 (m v1 5) x2), zJ] [(0, x5), (2, m3 v1 5)] kd m6 (zqV kd q)
    obtain ⟨o1, o2, h⟩ := h
    refine EvX.blk (pc' := 125) [(.iaload, 0, 0), (.istore 15, 0, 0), (.aload_n 0, 0, 0), (.getfield 27, 5, 5), (.iload 8, 0, 0), (.iload 11, 0, 0), (.iload 7, 0, 0)] (by decide +kernel) ⟨g_Table_27, trivial⟩ ⟨o1, o2, ?_⟩
    show Ev (d + 1) M_Table_loadTwiceLine 0 0 125 [(2, v0), (2, v1), (0, v2), (0, v3), (0, v4), (0, v5), zJ, (0, v7), (0, v8), (0, v9), (0, v10), (0, v11), (0, v12), (0, v13), (0, m3 (m v1 5) x2), (0, m6 (m3 v1 5) x5)] [(0, v7), (0, v11), (0, v8), (2, m6 v0 5)] kd m6 (zqV kd q)
    refine EvX.if_eq (off := 11) (tgt := 136) (by decide +kernel) (by decide) (fun hc => ?_) (fun hc => ?_)
    · have h := h.1 hc
      obtain ⟨o1, h⟩ := h
      refine EvX.blk (pc' := 149) [(.iload 14, 0, 0), (.iload 15, 0, 0), (.iand, 0, 0), (.imul, 0, 0), (.iastore, 0, 0), (.iinc 8 1, 0, 0), (.iinc 13 1, 0, 0)] (by decide +kernel) trivial ⟨o1, ?_⟩
      show Ev (d + 1) M_Table_loadTwiceLine 0 0 149 [(2, v0), (2, v1), (0, v2), (0, v3), (0, v4), (0, v5), zJ, (0, v7), (0, iw (v8 + 1)), (0, v9), (0, v10), (0, v11), (0, v12), (0, iw (v13 + 1)), (0, m3 (m v1 5) x2), (0, m6 (m3 v1 5) x5)] [] kd (zup m6 (m6 v0 5) v8 (iw (v11 * (zand (m3 (m v1 5) x2) (m6 (m3 v1 5) x5))))) (zqV kd q)
      refine EvX.goto (off := (-79)) (tgt := 70) (by decide +kernel) (by decide) ?_
      exact EvX.weak (ls2 := [(2, v0), (2, v1), (0, v2), (0, v3), (0, v4), (0, v5), zJ, (0, v7), (0, iw (v8 + 1)), (0, v9), (0, v10), (0, v11), (0, v12), (0, iw (v13 + 1)), zJ, zJ]) (zwk_of ⟨Or.inr rfl, Or.inr rfl, Or.inr rfl, Or.inr rfl, Or.inr rfl, Or.inr rfl, Or.inl rfl, Or.inr rfl, Or.inr rfl, Or.inr rfl, Or.inr rfl, Or.inr rfl, Or.inr rfl, Or.inr rfl, Or.inl rfl, Or.inl rfl, trivial⟩) h
    · have h := h.2 hc
      refine EvX.blk (pc' := 133) [(.iload 14, 0, 0), (.iload 15, 0, 0), (.ior, 0, 0)] (by decide +kernel) trivial ?_
      show Ev (d + 1) M_Table_loadTwiceLine 0 0 133 [(2, v0), (2, v1), (0, v2), (0, v3), (0, v4), (0, v5), zJ, (0, v7), (0, v8), (0, v9), (0, v10), (0, v11), (0, v12), (0, v13), (0, m3 (m v1 5) x2), (0, m6 (m3 v1 5) x5)] [(0, zor (m3 (m v1 5) x2) (m6 (m3 v1 5) x5)), (0, v11), (0, v8), (2, m6 v0 5)] kd m6 (zqV kd q)
      refine EvX.goto (off := 8) (tgt := 141) (by decide +kernel) (by decide) ?_
      obtain ⟨o1, h⟩ := h
      refine EvX.blk (pc' := 149) [(.imul, 0, 0), (.iastore, 0, 0), (.iinc 8 1, 0, 0), (.iinc 13 1, 0, 0)] (by decide +kernel) trivial ⟨o1, ?_⟩
      show Ev (d + 1) M_Table_loadTwiceLine 0 0 149 [(2, v0), (2, v1), (0, v2), (0, v3), (0, v4), (0, v5), zJ, (0, v7), (0, iw (v8 + 1)), (0, v9), (0, v10), (0, v11), (0, v12), (0, iw (v13 + 1)), (0, m3 (m v1 5) x2), (0, m6 (m3 v1 5) x5)] [] kd (zup m6 (m6 v0 5) v8 (iw (v11 * (zor (m3 (m v1 5) x2) (m6 (m3 v1 5) x5))))) (zqV kd q)
      refine EvX.goto (off := (-79)) (tgt := 70) (by decide +kernel) (by decide) ?_
      exact EvX.weak (ls2 := [(2, v0), (2, v1), (0, v2), (0, v3), (0, v4), (0, v5), zJ, (0, v7), (0, iw (v8 + 1)), (0, v9), (0, v10), (0, v11), (0, v12), (0, iw (v13 + 1)), zJ, zJ]) (zwk_of ⟨Or.inr rfl, Or.inr rfl, Or.inr rfl, Or.inr rfl, Or.inr rfl, Or.inr rfl, Or.inl rfl, Or.inr rfl, Or.inr rfl, Or.inr rfl, Or.inr rfl, Or.inr rfl, Or.inr rfl, Or.inr rfl, Or.inl rfl, Or.inl rfl, trivial⟩) h
set_option maxRecDepth 20000 in
set_option maxHeartbeats 1000000 in
theorem T_Table_loadWithItself_0 {d : Nat} {kd : ZK} {m : ZM} {q : ZM → Prop} {v0 v1 : Int} (h : (zobj kd v1 1 ∧ zobj kd v1 1 ∧ zobj kd v1 1 ∧ zobj kd v1 1 ∧ (zobj kd v0 5 ∧ ∃ q1, CtV d M_Table_setSizes [(2, v0), (0, iw ((m v1 0) * (m v1 0))), (0, 2), (0, iw ((m v1 1) * (m v1 1))), (0, 2)] kd m q1 ∧ ∀ m3, q1 m3 → (Ev (d + 1) M_Table_loadWithItself 0 0 28 [(2, v0), (2, v1), (0, 0), (0, 0), zJ] [] kd m3 (zqV kd q))))) : Ev (d + 1) M_Table_loadWithItself 0 0 0 [(2, v0), (2, v1), zJ, zJ, zJ] [] kd m (zqV kd q) := by
  obtain ⟨o1, o2, o3, o4, h⟩ := h
  refine EvX.blk (pc' := 21) [(.aload_n 0, 0, 0), (.aload_n 1, 0, 0), (.getfield 71, 1, 0), (.aload_n 1, 0, 0), (.getfield 71, 1, 0), (.imul, 0, 0), (.iconst 2, 0, 0), (.aload_n 1, 0, 0), (.getfield 77, 1, 1), (.aload_n 1, 0, 0), (.getfield 77, 1, 1), (.imul, 0, 0), (.iconst 2, 0, 0)] (by decide +kernel) ⟨g_Table_71, g_Table_71, g_Table_77, g_Table_77, trivial⟩ ⟨o1, o2, o3, o4, ?_⟩
  show Ev (d + 1) M_Table_loadWithItself 0 0 21 [(2, v0), (2, v1), zJ, zJ, zJ] [(0, 2), (0, iw ((m v1 1) * (m v1 1))), (0, 2), (0, iw ((m v1 0) * (m v1 0))), (2, v0)] kd m (zqV kd q)
  obtain ⟨ov, h⟩ := h
  obtain ⟨q1, hq, h⟩ := h
  refine EvX.callV (c := 5) (mc := 0) (ms := 0) (as := [(0, iw ((m v1 0) * (m v1 0))), (0, 2), (0, iw ((m v1 1) * (m v1 1))), (0, 2)]) (st := []) (by decide +kernel) l_Table_59 k_Table_setSizes v_Table_setSizes a_Table_setSizes (by decide) (Nat.le_of_ble_eq_true rfl) rfl ov hq (fun r kd1 m3 hr => ?_)
  obtain ⟨rfl, hk, hr⟩ := hr
  subst kd1
  have h := h m3 hr
  show Ev (d + 1) M_Table_loadWithItself 0 0 24 [(2, v0), (2, v1), zJ, zJ, zJ] [] kd m3 (zqV kd q)
  refine EvX.blk (pc' := 28) [(.iconst 0, 0, 0), (.istore_n 2, 0, 0), (.iconst 0, 0, 0), (.istore_n 3, 0, 0)] (by decide +kernel) trivial ?_
  show Ev (d + 1) M_Table_loadWithItself 0 0 28 [(2, v0), (2, v1), (0, 0), (0, 0), zJ] [] kd m3 (zqV kd q)
  exact h
theorem S_Table_loadWithItself {d : Nat} {kd : ZK} {m : ZM} {q : ZM → Prop} {v0 v1 : Int} (h : (zobj kd v1 1 ∧ zobj kd v1 1 ∧ zobj kd v1 1 ∧ zobj kd v1 1 ∧ (zobj kd v0 5 ∧ ∃ q1, CtV d M_Table_setSizes [(2, v0), (0, iw ((m v1 0) * (m v1 0))), (0, 2), (0, iw ((m v1 1) * (m v1 1))), (0, 2)] kd m q1 ∧ ∀ m3, q1 m3 → (Ev (d + 1) M_Table_loadWithItself 0 0 28 [(2, v0), (2, v1), (0, 0), (0, 0), zJ] [] kd m3 (zqV kd q))))) : CtV (d + 1) M_Table_loadWithItself [(2, v0), (2, v1)] kd m q :=
  Ct.start k_Table_loadWithItself (Nat.le_of_ble_eq_true rfl) ⟨0, Or.inl ⟨rfl, rfl⟩⟩ (T_Table_loadWithItself_0 h)
set_option maxRecDepth 20000 in
set_option maxHeartbeats 1000000 in
theorem T_Table_loadWithItself_28 {d : Nat} {kd : ZK} {m : ZM} {q : ZM → Prop} {v0 v1 v2 v3 : Int} (h : (zobj kd v1 1 ∧ (((m v1 0) ≤ v3 → q m) ∧ (¬ (m v1 0) ≤ v3 → (Ev (d + 1) M_Table_loadWithItself 0 0 39 [(2, v0), (2, v1), (0, v2), (0, v3), (0, 0)] [] kd m (zqV kd q)))))) : Ev (d + 1) M_Table_loadWithItself 0 0 28 [(2, v0), (2, v1), (0, v2), (0, v3), zJ] [] kd m (zqV kd q) := by
  obtain ⟨o1, h⟩ := h
  refine EvX.blk (pc' := 33) [(.iload_n 3, 0, 0), (.aload_n 1, 0, 0), (.getfield 71, 1, 0)] (by decide +kernel) ⟨g_Table_71, trivial⟩ ⟨o1, ?_⟩
  show Ev (d + 1) M_Table_loadWithItself 0 0 33 [(2, v0), (2, v1), (0, v2), (0, v3), zJ] [(0, m v1 0), (0, v3)] kd m (zqV kd q)
  refine EvX.icmp_ge (off := 45) (tgt := 78) (by decide +kernel) (by decide) (fun hc => ?_) (fun hc => ?_)
  · have h := h.1 hc
    exact EvX.ret (r := zJ) (by decide +kernel) rfl ⟨rfl, rfl, h⟩
  · have h := h.2 hc
    refine EvX.blk (pc' := 39) [(.iconst 0, 0, 0), (.istore 4, 0, 0)] (by decide +kernel) trivial ?_
    show Ev (d + 1) M_Table_loadWithItself 0 0 39 [(2, v0), (2, v1), (0, v2), (0, v3), (0, 0)] [] kd m (zqV kd q)
    exact h
set_option maxRecDepth 20000 in
set_option maxHeartbeats 1000000 in
theorem T_Table_loadWithItself_39 {d : Nat} {kd : ZK} {m : ZM} {q : ZM → Prop} {v0 v1 v2 v3 v4 : Int} (h : (zobj kd v1 1 ∧ (((m v1 0) ≤ v4 → (Ev (d + 1) M_Table_loadWithItself 0 0 28 [(2, v0), (2, v1), (0, v2), (0, iw (v3 + 1)), zJ] [] kd m (zqV kd q))) ∧ (¬ (m v1 0) ≤ v4 → (zobj kd v0 5 ∧ ∃ q1, CtV d M_Table_loadWithItselfLines [(2, v0), (2, v1), (0, v3), (0, v4), (0, v2)] kd m q1 ∧ ∀ m3, q1 m3 → (zobj kd v0 5 ∧ (Ev (d + 1) M_Table_loadWithItself 0 0 39 [(2, v0), (2, v1), (0, iw (v2 + (iw (2 * (m3 v0 4))))), (0, v3), (0, iw (v4 + 1))] [] kd m3 (zqV kd q)))))))) : Ev (d + 1) M_Table_loadWithItself 0 0 39 [(2, v0), (2, v1), (0, v2), (0, v3), (0, v4)] [] kd m (zqV kd q) := by
  obtain ⟨o1, h⟩ := h
  refine EvX.blk (pc' := 45) [(.iload 4, 0, 0), (.aload_n 1, 0, 0), (.getfield 71, 1, 0)] (by decide +kernel) ⟨g_Table_71, trivial⟩ ⟨o1, ?_⟩
  show Ev (d + 1) M_Table_loadWithItself 0 0 45 [(2, v0), (2, v1), (0, v2), (0, v3), (0, v4)] [(0, m v1 0), (0, v4)] kd m (zqV kd q)
  refine EvX.icmp_ge (off := 27) (tgt := 72) (by decide +kernel) (by decide) (fun hc => ?_) (fun hc => ?_)
  · have h := h.1 hc
    refine EvX.blk (pc' := 75) [(.iinc 3 1, 0, 0)] (by decide +kernel) trivial ?_
    show Ev (d + 1) M_Table_loadWithItself 0 0 75 [(2, v0), (2, v1), (0, v2), (0, iw (v3 + 1)), (0, v4)] [] kd m (zqV kd q)
    refine EvX.goto (off := (-47)) (tgt := 28) (by decide +kernel) (by decide) ?_
    exact EvX.weak (ls2 := [(2, v0), (2, v1), (0, v2), (0, iw (v3 + 1)), zJ]) (zwk_of ⟨Or.inr rfl, Or.inr rfl, Or.inr rfl, Or.inr rfl, Or.inl rfl, trivial⟩) h
  · have h := h.2 hc
    refine EvX.blk (pc' := 54) [(.aload_n 0, 0, 0), (.aload_n 1, 0, 0), (.iload_n 3, 0, 0), (.iload 4, 0, 0), (.iload_n 2, 0, 0)] (by decide +kernel) trivial ?_
    show Ev (d + 1) M_Table_loadWithItself 0 0 54 [(2, v0), (2, v1), (0, v2), (0, v3), (0, v4)] [(0, v2), (0, v4), (0, v3), (2, v1), (2, v0)] kd m (zqV kd q)
    obtain ⟨ov, h⟩ := h
    obtain ⟨q1, hq, h⟩ := h
    refine EvX.callV (c := 5) (mc := 0) (ms := 0) (as := [(2, v1), (0, v3), (0, v4), (0, v2)]) (st := []) (by decide +kernel) l_Table_100 k_Table_loadWithItselfLines v_Table_loadWithItselfLines a_Table_loadWithItselfLines (by decide) (Nat.le_of_ble_eq_true rfl) rfl ov hq (fun r kd1 m3 hr => ?_)
    obtain ⟨rfl, hk, hr⟩ := hr
    subst kd1
    have h := h m3 hr
    show Ev (d + 1) M_Table_loadWithItself 0 0 57 [(2, v0), (2, v1), (0, v2), (0, v3), (0, v4)] [] kd m3 (zqV kd q)
    obtain ⟨o1, h⟩ := h
    refine EvX.blk (pc' := 69) [(.iload_n 2, 0, 0), (.iconst 2, 0, 0), (.aload_n 0, 0, 0), (.getfield 24, 5, 4), (.imul, 0, 0), (.iadd, 0, 0), (.istore_n 2, 0, 0), (.iinc 4 1, 0, 0)] (by decide +kernel) ⟨g_Table_24, trivial⟩ ⟨o1, ?_⟩
    show Ev (d + 1) M_Table_loadWithItself 0 0 69 [(2, v0), (2, v1), (0, iw (v2 + (iw (2 * (m3 v0 4))))), (0, v3), (0, iw (v4 + 1))] [] kd m3 (zqV kd q)
    refine EvX.goto (off := (-30)) (tgt := 39) (by decide +kernel) (by decide) ?_
    exact h
set_option maxRecDepth 20000 in
set_option maxHeartbeats 1000000 in
theorem T_Table_loadWithItselfLines_0 {d : Nat} {kd : ZK} {m : ZM} {q : ZM → Prop} {v0 v1 v2 v3 v4 : Int} (h : (Ev (d + 1) M_Table_loadWithItselfLines 0 0 7 [(2, v0), (2, v1), (0, v2), (0, v3), (0, v4), (0, v4), (0, 0), zJ, zJ, zJ] [] kd m (zqV kd q))) : Ev (d + 1) M_Table_loadWithItselfLines 0 0 0 [(2, v0), (2, v1), (0, v2), (0, v3), (0, v4), zJ, zJ, zJ, zJ, zJ] [] kd m (zqV kd q) := by
  refine EvX.blk (pc' := 7) [(.iload 4, 0, 0), (.istore 5, 0, 0), (.iconst 0, 0, 0), (.istore 6, 0, 0)] (by decide +kernel) trivial ?_
  show Ev (d + 1) M_Table_loadWithItselfLines 0 0 7 [(2, v0), (2, v1), (0, v2), (0, v3), (0, v4), (0, v4), (0, 0), zJ, zJ, zJ] [] kd m (zqV kd q)
  exact h
theorem S_Table_loadWithItselfLines {d : Nat} {kd : ZK} {m : ZM} {q : ZM → Prop} {v0 v1 v2 v3 v4 : Int} (h : (Ev (d + 1) M_Table_loadWithItselfLines 0 0 7 [(2, v0), (2, v1), (0, v2), (0, v3), (0, v4), (0, v4), (0, 0), zJ, zJ, zJ] [] kd m (zqV kd q))) : CtV (d + 1) M_Table_loadWithItselfLines [(2, v0), (2, v1), (0, v2), (0, v3), (0, v4)] kd m q :=
  Ct.start k_Table_loadWithItselfLines (Nat.le_of_ble_eq_true rfl) ⟨0, Or.inl ⟨rfl, rfl⟩⟩ (T_Table_loadWithItselfLines_0 h)
set_option maxRecDepth 20000 in
set_option maxHeartbeats 1000000 in
theorem T_Table_loadWithItselfLines_7 {d : Nat} {kd : ZK} {m : ZM} {q : ZM → Prop} {v0 v1 v2 v3 v4 v5 v6 : Int} (h : (zobj kd v1 1 ∧ (((m v1 1) ≤ v6 → q m) ∧ (¬ (m v1 1) ≤ v6 → (Ev (d + 1) M_Table_loadWithItselfLines 0 0 19 [(2, v0), (2, v1), (0, v2), (0, v3), (0, v4), (0, v5), (0, v6), (0, 0), zJ, zJ] [] kd m (zqV kd q)))))) : Ev (d + 1) M_Table_loadWithItselfLines 0 0 7 [(2, v0), (2, v1), (0, v2), (0, v3), (0, v4), (0, v5), (0, v6), zJ, zJ, zJ] [] kd m (zqV kd q) := by
  obtain ⟨o1, h⟩ := h
  refine EvX.blk (pc' := 13) [(.iload 6, 0, 0), (.aload_n 1, 0, 0), (.getfield 77, 1, 1)] (by decide +kernel) ⟨g_Table_77, trivial⟩ ⟨o1, ?_⟩
  show Ev (d + 1) M_Table_loadWithItselfLines 0 0 13 [(2, v0), (2, v1), (0, v2), (0, v3), (0, v4), (0, v5), (0, v6), zJ, zJ, zJ] [(0, m v1 1), (0, v6)] kd m (zqV kd q)
  refine EvX.icmp_ge (off := 114) (tgt := 127) (by decide +kernel) (by decide) (fun hc => ?_) (fun hc => ?_)
  · have h := h.1 hc
    exact EvX.ret (r := zJ) (by decide +kernel) rfl ⟨rfl, rfl, h⟩
  · have h := h.2 hc
    refine EvX.blk (pc' := 19) [(.iconst 0, 0, 0), (.istore 7, 0, 0)] (by decide +kernel) trivial ?_
    show Ev (d + 1) M_Table_loadWithItselfLines 0 0 19 [(2, v0), (2, v1), (0, v2), (0, v3), (0, v4), (0, v5), (0, v6), (0, 0), zJ, zJ] [] kd m (zqV kd q)
    exact h
set_option maxRecDepth 20000 in
set_option maxHeartbeats 1000000 in
theorem T_Table_loadWithItselfLines_19 {d : Nat} {kd : ZK} {m : ZM} {q : ZM → Prop} {v0 v1 v2 v3 v4 v5 v6 v7 : Int} (h : (zobj kd v1 1 ∧ (((m v1 1) ≤ v7 → (Ev (d + 1) M_Table_loadWithItselfLines 0 0 7 [(2, v0), (2, v1), (0, v2), (0, v3), (0, v4), (0, v5), (0, iw (v6 + 1)), zJ, zJ, zJ] [] kd m (zqV kd q))) ∧ (¬ (m v1 1) ≤ v7 → (zobj kd v1 1 ∧ ∃ q1, CtI d M_Game_signedWeight [(2, v1), (0, v2), (0, v6)] kd m q1 ∧ ∀ x2 m3, q1 x2 m3 → (zobj kd v1 1 ∧ ∃ q4, CtI d M_Game_signedWeight [(2, v1), (0, v3), (0, v7)] kd m3 q4 ∧ ∀ x5 m6, q4 x5 m6 → ((v4 ≠ 0 → (Ev (d + 1) M_Table_loadWithItselfLines 0 0 58 [(2, v0), (2, v1), (0, v2), (0, v3), (0, v4), (0, v5), (0, v6), (0, v7), (0, iw (x2 * x5)), zJ] [(0, iw (-(iw (x2 * x5))))] kd m6 (zqV kd q))) ∧ (¬ v4 ≠ 0 → (Ev (d + 1) M_Table_loadWithItselfLines 0 0 58 [(2, v0), (2, v1), (0, v2), (0, v3), (0, v4), (0, v5), (0, v6), (0, v7), (0, iw (x2 * x5)), zJ] [(0, iw (x2 * x5))] kd m6 (zqV kd q)))))))))) : Ev (d + 1) M_Table_loadWithItselfLines 0 0 19 [(2, v0), (2, v1), (0, v2), (0, v3), (0, v4), (0, v5), (0, v6), (0, v7), zJ, zJ] [] kd m (zqV kd q) := by
  obtain ⟨o1, h⟩ := h
  refine EvX.blk (pc' := 25) [(.iload 7, 0, 0), (.aload_n 1, 0, 0), (.getfield 77, 1, 1)] (by decide +kernel) ⟨g_Table_77, trivial⟩ ⟨o1, ?_⟩
  show Ev (d + 1) M_Table_loadWithItselfLines 0 0 25 [(2, v0), (2, v1), (0, v2), (0, v3), (0, v4), (0, v5), (0, v6), (0, v7), zJ, zJ] [(0, m v1 1), (0, v7)] kd m (zqV kd q)
  refine EvX.icmp_ge (off := 96) (tgt := 121) (by decide +kernel) (by decide) (fun hc => ?_) (fun hc => ?_)
  · have h := h.1 hc
    refine EvX.blk (pc' := 124) [(.iinc 6 1, 0, 0)] (by decide +kernel) trivial ?_
    show Ev (d + 1) M_Table_loadWithItselfLines 0 0 124 [(2, v0), (2, v1), (0, v2), (0, v3), (0, v4), (0, v5), (0, iw (v6 + 1)), (0, v7), zJ, zJ] [] kd m (zqV kd q)
    refine EvX.goto (off := (-117)) (tgt := 7) (by decide +kernel) (by decide) ?_
    exact EvX.weak (ls2 := [(2, v0), (2, v1), (0, v2), (0, v3), (0, v4), (0, v5), (0, iw (v6 + 1)), zJ, zJ, zJ]) (zwk_of ⟨Or.inr rfl, Or.inr rfl, Or.inr rfl, Or.inr rfl, Or.inr rfl, Or.inr rfl, Or.inr rfl, Or.inl rfl, Or.inl rfl, Or.inl rfl, trivial⟩) h
  · have h := h.2 hc
    refine EvX.blk (pc' := 32) [(.aload_n 1, 0, 0), (.iload_n 2, 0, 0), (.iload 6, 0, 0)] (by decide +kernel) trivial ?_
    show Ev (d + 1) M_Table_loadWithItselfLines 0 0 32 [(2, v0), (2, v1), (0, v2), (0, v3), (0, v4), (0, v5), (0, v6), (0, v7), zJ, zJ] [(0, v6), (0, v2), (2, v1)] kd m (zqV kd q)
    obtain ⟨ov, h⟩ := h
    obtain ⟨q1, hq, h⟩ := h
    refine EvX.callV (c := 1) (mc := 0) (ms := 0) (as := [(0, v2), (0, v6)]) (st := []) (by decide +kernel) l_Table_104 k_Game_signedWeight v_Game_signedWeight a_Game_signedWeight (by decide) (Nat.le_of_ble_eq_true rfl) rfl ov hq (fun r kd1 m3 hr => ?_)
    obtain ⟨x2, rfl, hk, hr⟩ := hr
    subst kd1
    have h := h x2 m3 hr
    show Ev (d + 1) M_Table_loadWithItselfLines 0 0 35 [(2, v0), (2, v1), (0, v2), (0, v3), (0, v4), (0, v5), (0, v6), (0, v7), zJ, zJ] [(0, x2)] kd m3 (zqV kd q)
    refine EvX.blk (pc' := 39) [(.aload_n 1, 0, 0), (.iload_n 3, 0, 0), (.iload 7, 0, 0)] (by decide +kernel) trivial ?_
    show Ev (d + 1) M_Table_loadWithItselfLines 0 0 39 [(2, v0), (2, v1), (0, v2), (0, v3), (0, v4), (0, v5), (0, v6), (0, v7), zJ, zJ] [(0, v7), (0, v3), (2, v1), (0, x2)] kd m3 (zqV kd q)
    obtain ⟨ov, h⟩ := h
    obtain ⟨q4, hq, h⟩ := h
    refine EvX.callV (c := 1) (mc := 0) (ms := 0) (as := [(0, v3), (0, v7)]) (st := [(0, x2)]) (by decide +kernel) l_Table_104 k_Game_signedWeight v_Game_signedWeight a_Game_signedWeight (by decide) (Nat.le_of_ble_eq_true rfl) rfl ov hq (fun r kd1 m6 hr => ?_)
    obtain ⟨x5, rfl, hk, hr⟩ := hr
    subst kd1
    have h := h x5 m6 hr
    show Ev (d + 1) M_Table_loadWithItselfLines 0 0 42 [(2, v0), (2, v1), (0, v2), (0, v3), (0, v4), (0, v5), (0, v6), (0, v7), zJ, zJ] [(0, x5), (0, x2)] kd m6 (zqV kd q)
    refine EvX.blk (pc' := 47) [(.imul, 0, 0), (.istore 8, 0, 0), (.iload 4, 0, 0)] (by decide +kernel) trivial ?_
    show Ev (d + 1) M_Table_loadWithItselfLines 0 0 47 [(2, v0), (2, v1), (0, v2), (0, v3), (0, v4), (0, v5), (0, v6), (0, v7), (0, iw (x2 * x5)), zJ] [(0, v4)] kd m6 (zqV kd q)
    refine EvX.if_ne (off := 8) (tgt := 55) (by decide +kernel) (by decide) (fun hc => ?_) (fun hc => ?_)
    · have h := h.1 hc
      refine EvX.blk (pc' := 58) [(.iload 8, 0, 0), (.ineg, 0, 0)] (by decide +kernel) trivial ?_
      show Ev (d + 1) M_Table_loadWithItselfLines 0 0 58 [(2, v0), (2, v1), (0, v2), (0, v3), (0, v4), (0, v5), (0, v6), (0, v7), (0, iw (x2 * x5)), zJ] [(0, iw (-(iw (x2 * x5))))] kd m6 (zqV kd q)
      exact h
    · have h := h.2 hc
      refine EvX.blk (pc' := 52) [(.iload 8, 0, 0)] (by decide +kernel) trivial ?_
      show Ev (d + 1) M_Table_loadWithItselfLines 0 0 52 [(2, v0), (2, v1), (0, v2), (0, v3), (0, v4), (0, v5), (0, v6), (0, v7), (0, iw (x2 * x5)), zJ] [(0, iw (x2 * x5))] kd m6 (zqV kd q)
      refine EvX.goto (off := 6) (tgt := 58) (by decide +kernel) (by decide) ?_
      exact h
set_option maxRecDepth 20000 in
set_option maxHeartbeats 1000000 in
theorem T_Table_loadWithItselfLines_58 {d : Nat} {kd : ZK} {m : ZM} {q : ZM → Prop} {v0 v1 v2 v3 v4 v5 v6 v7 v8 s0 : Int} (h : (zobj kd v0 5 ∧ zIn kd (m v0 5) 0 v5 ∧ zobj kd v0 5 ∧ zIn kd ((zup m (m v0 5) v5 v8) v0 5) 0 (iw (v5 + 1)) ∧ zobj kd v0 5 ∧ zobj kd v0 5 ∧ zIn kd ((zup (zup m (m v0 5) v5 v8) ((zup m (m v0 5) v5 v8) v0 5) (iw (v5 + 1)) (iw (-v8))) v0 5) 0 (iw (v5 + ((zup (zup m (m v0 5) v5 v8) ((zup m (m v0 5) v5 v8) v0 5) (iw (v5 + 1)) (iw (-v8))) v0 4))) ∧ zobj kd v0 5 ∧ zobj kd v0 5 ∧ zIn kd ((zup (zup (zup m (m v0 5) v5 v8) ((zup m (m v0 5) v5 v8) v0 5) (iw (v5 + 1)) (iw (-v8))) ((zup (zup m (m v0 5) v5 v8) ((zup m (m v0 5) v5 v8) v0 5) (iw (v5 + 1)) (iw (-v8))) v0 5) (iw (v5 + ((zup (zup m (m v0 5) v5 v8) ((zup m (m v0 5) v5 v8) v0 5) (iw (v5 + 1)) (iw (-v8))) v0 4))) s0) v0 5) 0 (iw ((iw (v5 + ((zup (zup (zup m (m v0 5) v5 v8) ((zup m (m v0 5) v5 v8) v0 5) (iw (v5 + 1)) (iw (-v8))) ((zup (zup m (m v0 5) v5 v8) ((zup m (m v0 5) v5 v8) v0 5) (iw (v5 + 1)) (iw (-v8))) v0 5) (iw (v5 + ((zup (zup m (m v0 5) v5 v8) ((zup m (m v0 5) v5 v8) v0 5) (iw (v5 + 1)) (iw (-v8))) v0 4))) s0) v0 4))) + 1)) ∧ (Ev (d + 1) M_Table_loadWithItselfLines 0 0 19 [(2, v0), (2, v1), (0, v2), (0, v3), (0, v4), (0, iw (v5 + 2)), (0, v6), (0, iw (v7 + 1)), zJ, zJ] [] kd (zup (zup (zup (zup m (m v0 5) v5 v8) ((zup m (m v0 5) v5 v8) v0 5) (iw (v5 + 1)) (iw (-v8))) ((zup (zup m (m v0 5) v5 v8) ((zup m (m v0 5) v5 v8) v0 5) (iw (v5 + 1)) (iw (-v8))) v0 5) (iw (v5 + ((zup (zup m (m v0 5) v5 v8) ((zup m (m v0 5) v5 v8) v0 5) (iw (v5 + 1)) (iw (-v8))) v0 4))) s0) ((zup (zup (zup m (m v0 5) v5 v8) ((zup m (m v0 5) v5 v8) v0 5) (iw (v5 + 1)) (iw (-v8))) ((zup (zup m (m v0 5) v5 v8) ((zup m (m v0 5) v5 v8) v0 5) (iw (v5 + 1)) (iw (-v8))) v0 5) (iw (v5 + ((zup (zup m (m v0 5) v5 v8) ((zup m (m v0 5) v5 v8) v0 5) (iw (v5 + 1)) (iw (-v8))) v0 4))) s0) v0 5) (iw ((iw (v5 + ((zup (zup (zup m (m v0 5) v5 v8) ((zup m (m v0 5) v5 v8) v0 5) (iw (v5 + 1)) (iw (-v8))) ((zup (zup m (m v0 5) v5 v8) ((zup m (m v0 5) v5 v8) v0 5) (iw (v5 + 1)) (iw (-v8))) v0 5) (iw (v5 + ((zup (zup m (m v0 5) v5 v8) ((zup m (m v0 5) v5 v8) v0 5) (iw (v5 + 1)) (iw (-v8))) v0 4))) s0) v0 4))) + 1)) (iw (-s0))) (zqV kd q)))) : Ev (d + 1) M_Table_loadWithItselfLines 0 0 58 [(2, v0), (2, v1), (0, v2), (0, v3), (0, v4), (0, v5), (0, v6), (0, v7), (0, v8), zJ] [(0, s0)] kd m (zqV kd q) := by
  obtain ⟨o1, o2, o3, o4, o5, o6, o7, o8, o9, o10, h⟩ := h
  refine EvX.blk (pc' := 118) ((.istore 9, 0, 0) :: (.aload_n 0, 0, 0) :: (.getfield 27, 5, 5) :: (.iload 5, 0, 0) :: (.iload 8, 0, 0) :: (.iastore, 0, 0) :: (.aload_n 0, 0, 0) :: (.getfield 27, 5, 5) :: (.iload 5, 0, 0) :: (.iconst 1, 0, 0) :: (.iadd, 0, 0) :: (.iload 8, 0, 0) :: (.ineg, 0, 0) :: (.iastore, 0, 0) :: (.aload_n 0, 0, 0) :: (.getfield 27, 5, 5) :: (.iload 5, 0, 0) :: (.aload_n 0, 0, 0) :: (.getfield 24, 5, 4) :: (.iadd, 0, 0) :: (.iload 9, 0, 0) :: (.iastore, 0, 0) :: (.aload_n 0, 0, 0) :: (.getfield 27, 5, 5) :: (.iload 5, 0, 0) :: (.aload_n 0, 0, 0) :: (.getfield 24, 5, 4) :: (.iadd, 0, 0) :: (.iconst 1, 0, 0) :: (.iadd, 0, 0) :: (.iload 9, 0, 0) :: (.ineg, 0, 0) :: (.iastore, 0, 0) :: (.iinc 5 2, 0, 0) :: (.iinc 7 1, 0, 0) :: []) (by decide +kernel) ⟨g_Table_27, g_Table_27, g_Table_27, g_Table_24, g_Table_27, g_Table_24, trivial⟩ ⟨o1, o2, o3, o4, o5, o6, o7, o8, o9, o10, ?_⟩
  show Ev (d + 1) M_Table_loadWithItselfLines 0 0 118 [(2, v0), (2, v1), (0, v2), (0, v3), (0, v4), (0, iw (v5 + 2)), (0, v6), (0, iw (v7 + 1)), (0, v8), (0, s0)] [] kd (zup (zup (zup (zup m (m v0 5) v5 v8) ((zup m (m v0 5) v5 v8) v0 5) (iw (v5 + 1)) (iw (-v8))) ((zup (zup m (m v0 5) v5 v8) ((zup m (m v0 5) v5 v8) v0 5) (iw (v5 + 1)) (iw (-v8))) v0 5) (iw (v5 + ((zup (zup m (m v0 5) v5 v8) ((zup m (m v0 5) v5 v8) v0 5) (iw (v5 + 1)) (iw (-v8))) v0 4))) s0) ((zup (zup (zup m (m v0 5) v5 v8) ((zup m (m v0 5) v5 v8) v0 5) (iw (v5 + 1)) (iw (-v8))) ((zup (zup m (m v0 5) v5 v8) ((zup m (m v0 5) v5 v8) v0 5) (iw (v5 + 1)) (iw (-v8))) v0 5) (iw (v5 + ((zup (zup m (m v0 5) v5 v8) ((zup m (m v0 5) v5 v8) v0 5) (iw (v5 + 1)) (iw (-v8))) v0 4))) s0) v0 5) (iw ((iw (v5 + ((zup (zup (zup m (m v0 5) v5 v8) ((zup m (m v0 5) v5 v8) v0 5) (iw (v5 + 1)) (iw (-v8))) ((zup (zup m (m v0 5) v5 v8) ((zup m (m v0 5) v5 v8) v0 5) (iw (v5 + 1)) (iw (-v8))) v0 5) (iw (v5 + ((zup (zup m (m v0 5) v5 v8) ((zup m (m v0 5) v5 v8) v0 5) (iw (v5 + 1)) (iw (-v8))) v0 4))) s0) v0 4))) + 1)) (iw (-s0))) (zqV kd q)
  refine EvX.goto (off := (-99)) (tgt := 19) (by decide +kernel) (by decide) ?_
  exact EvX.weak (ls2 := [(2, v0), (2, v1), (0, v2), (0, v3), (0, v4), (0, iw (v5 + 2)), (0, v6), (0, iw (v7 + 1)), zJ, zJ]) (zwk_of ⟨Or.inr rfl, Or.inr rfl, Or.inr rfl, Or.inr rfl, Or.inr rfl, Or.inr rfl, Or.inr rfl, Or.inr rfl, Or.inl rfl, Or.inl rfl, trivial⟩) h
set_option maxRecDepth 20000 in
set_option maxHeartbeats 1000000 in
theorem T_Table_rows_0 {d : Nat} {kd : ZK} {m : ZM} {q : Int → ZM → Prop} {v0 : Int} (h : (Ev (d + 1) M_Table_rows 0 0 4 [(2, v0), (0, 1), (0, 0)] [] kd m (zqI kd q))) : Ev (d + 1) M_Table_rows 0 0 0 [(2, v0), zJ, zJ] [] kd m (zqI kd q) := by
  refine EvX.blk (pc' := 4) [(.iconst 1, 0, 0), (.istore_n 1, 0, 0), (.iconst 0, 0, 0), (.istore_n 2, 0, 0)] (by decide +kernel) trivial ?_
  show Ev (d + 1) M_Table_rows 0 0 4 [(2, v0), (0, 1), (0, 0)] [] kd m (zqI kd q)
  exact h
theorem S_Table_rows {d : Nat} {kd : ZK} {m : ZM} {q : Int → ZM → Prop} {v0 : Int} (h : (Ev (d + 1) M_Table_rows 0 0 4 [(2, v0), (0, 1), (0, 0)] [] kd m (zqI kd q))) : CtI (d + 1) M_Table_rows [(2, v0)] kd m q :=
  Ct.start k_Table_rows (Nat.le_of_ble_eq_true rfl) ⟨1, Or.inr (Or.inl ⟨rfl, rfl⟩)⟩ (T_Table_rows_0 h)
set_option maxRecDepth 20000 in
set_option maxHeartbeats 1000000 in
theorem T_Table_rows_4 {d : Nat} {kd : ZK} {m : ZM} {q : Int → ZM → Prop} {v0 v1 v2 : Int} (h : (zobj kd v0 5 ∧ (((m v0 0) ≤ v2 → q v1 m) ∧ (¬ (m v0 0) ≤ v2 → (zobj kd v0 5 ∧ (Ev (d + 1) M_Table_rows 0 0 4 [(2, v0), (0, iw (v1 * (m v0 1))), (0, iw (v2 + 1))] [] kd m (zqI kd q))))))) : Ev (d + 1) M_Table_rows 0 0 4 [(2, v0), (0, v1), (0, v2)] [] kd m (zqI kd q) := by
  obtain ⟨o1, h⟩ := h
  refine EvX.blk (pc' := 9) [(.iload_n 2, 0, 0), (.aload_n 0, 0, 0), (.getfield 9, 5, 0)] (by decide +kernel) ⟨g_Table_9, trivial⟩ ⟨o1, ?_⟩
  show Ev (d + 1) M_Table_rows 0 0 9 [(2, v0), (0, v1), (0, v2)] [(0, m v0 0), (0, v2)] kd m (zqI kd q)
  refine EvX.icmp_ge (off := 16) (tgt := 25) (by decide +kernel) (by decide) (fun hc => ?_) (fun hc => ?_)
  · have h := h.1 hc
    refine EvX.blk (pc' := 26) [(.iload_n 1, 0, 0)] (by decide +kernel) trivial ?_
    show Ev (d + 1) M_Table_rows 0 0 26 [(2, v0), (0, v1), (0, v2)] [(0, v1)] kd m (zqI kd q)
    exact EvX.ret (r := (0, v1)) (by decide +kernel) rfl ⟨_, rfl, rfl, h⟩
  · have h := h.2 hc
    obtain ⟨o1, h⟩ := h
    refine EvX.blk (pc' := 22) [(.iload_n 1, 0, 0), (.aload_n 0, 0, 0), (.getfield 15, 5, 1), (.imul, 0, 0), (.istore_n 1, 0, 0), (.iinc 2 1, 0, 0)] (by decide +kernel) ⟨g_Table_15, trivial⟩ ⟨o1, ?_⟩
    show Ev (d + 1) M_Table_rows 0 0 22 [(2, v0), (0, iw (v1 * (m v0 1))), (0, iw (v2 + 1))] [] kd m (zqI kd q)
    refine EvX.goto (off := (-18)) (tgt := 4) (by decide +kernel) (by decide) ?_
    exact h
set_option maxRecDepth 20000 in
set_option maxHeartbeats 1000000 in
theorem T_Table_begin_0 {d : Nat} {kd : ZK} {m : ZM} {q : ZM → Prop} {v0 : Int} (h : (Ev (d + 1) M_Table_begin 0 0 2 [(2, v0), (0, 0)] [] kd m (zqV kd q))) : Ev (d + 1) M_Table_begin 0 0 0 [(2, v0), zJ] [] kd m (zqV kd q) := by
  refine EvX.blk (pc' := 2) [(.iconst 0, 0, 0), (.istore_n 1, 0, 0)] (by decide +kernel) trivial ?_
  show Ev (d + 1) M_Table_begin 0 0 2 [(2, v0), (0, 0)] [] kd m (zqV kd q)
  exact h
theorem S_Table_begin {d : Nat} {kd : ZK} {m : ZM} {q : ZM → Prop} {v0 : Int} (h : (Ev (d + 1) M_Table_begin 0 0 2 [(2, v0), (0, 0)] [] kd m (zqV kd q))) : CtV (d + 1) M_Table_begin [(2, v0)] kd m q :=
  Ct.start k_Table_begin (Nat.le_of_ble_eq_true rfl) ⟨0, Or.inl ⟨rfl, rfl⟩⟩ (T_Table_begin_0 h)
set_option maxRecDepth 20000 in
set_option maxHeartbeats 1000000 in
theorem T_Table_begin_2 {d : Nat} {kd : ZK} {m : ZM} {q : ZM → Prop} {v0 v1 : Int} (h : (zobj kd v0 5 ∧ (((m v0 0) ≤ v1 → (zobj kd v0 5 ∧ ∃ q1, CtV d M_Table_clearFirstSums [(2, v0)] kd m q1 ∧ ∀ m3, q1 m3 → (zobj kd v0 5 ∧ ∃ q4, CtV d M_Table_sumFrom [(2, v0), (0, 0)] kd m3 q4 ∧ ∀ m6, q4 m6 → q m6))) ∧ (¬ (m v0 0) ≤ v1 → (zobj kd v0 5 ∧ zIn kd (m v0 9) 0 v1 ∧ (Ev (d + 1) M_Table_begin 0 0 2 [(2, v0), (0, iw (v1 + 1))] [] kd (zup m (m v0 9) v1 0) (zqV kd q))))))) : Ev (d + 1) M_Table_begin 0 0 2 [(2, v0), (0, v1)] [] kd m (zqV kd q) := by
  obtain ⟨o1, h⟩ := h
  refine EvX.blk (pc' := 7) [(.iload_n 1, 0, 0), (.aload_n 0, 0, 0), (.getfield 9, 5, 0)] (by decide +kernel) ⟨g_Table_9, trivial⟩ ⟨o1, ?_⟩
  show Ev (d + 1) M_Table_begin 0 0 7 [(2, v0), (0, v1)] [(0, m v0 0), (0, v1)] kd m (zqV kd q)
  refine EvX.icmp_ge (off := 16) (tgt := 23) (by decide +kernel) (by decide) (fun hc => ?_) (fun hc => ?_)
  · have h := h.1 hc
    refine EvX.blk (pc' := 24) [(.aload_n 0, 0, 0)] (by decide +kernel) trivial ?_
    show Ev (d + 1) M_Table_begin 0 0 24 [(2, v0), (0, v1)] [(2, v0)] kd m (zqV kd q)
    obtain ⟨ov, h⟩ := h
    obtain ⟨q1, hq, h⟩ := h
    refine EvX.callV (c := 5) (mc := 0) (ms := 0) (as := []) (st := []) (by decide +kernel) l_Table_108 k_Table_clearFirstSums v_Table_clearFirstSums a_Table_clearFirstSums (by decide) (Nat.le_of_ble_eq_true rfl) rfl ov hq (fun r kd1 m3 hr => ?_)
    obtain ⟨rfl, hk, hr⟩ := hr
    subst kd1
    have h := h m3 hr
    show Ev (d + 1) M_Table_begin 0 0 27 [(2, v0), (0, v1)] [] kd m3 (zqV kd q)
    refine EvX.blk (pc' := 29) [(.aload_n 0, 0, 0), (.iconst 0, 0, 0)] (by decide +kernel) trivial ?_
    show Ev (d + 1) M_Table_begin 0 0 29 [(2, v0), (0, v1)] [(0, 0), (2, v0)] kd m3 (zqV kd q)
    obtain ⟨ov, h⟩ := h
    obtain ⟨q4, hq, h⟩ := h
    refine EvX.callV (c := 5) (mc := 0) (ms := 0) (as := [(0, 0)]) (st := []) (by decide +kernel) l_Table_111 k_Table_sumFrom v_Table_sumFrom a_Table_sumFrom (by decide) (Nat.le_of_ble_eq_true rfl) rfl ov hq (fun r kd1 m6 hr => ?_)
    obtain ⟨rfl, hk, hr⟩ := hr
    subst kd1
    have h := h m6 hr
    show Ev (d + 1) M_Table_begin 0 0 32 [(2, v0), (0, v1)] [] kd m6 (zqV kd q)
    exact EvX.ret (r := zJ) (by decide +kernel) rfl ⟨rfl, rfl, h⟩
  · have h := h.2 hc
    obtain ⟨o1, o2, h⟩ := h
    refine EvX.blk (pc' := 20) [(.aload_n 0, 0, 0), (.getfield 41, 5, 9), (.iload_n 1, 0, 0), (.iconst 0, 0, 0), (.iastore, 0, 0), (.iinc 1 1, 0, 0)] (by decide +kernel) ⟨g_Table_41, trivial⟩ ⟨o1, o2, ?_⟩
    show Ev (d + 1) M_Table_begin 0 0 20 [(2, v0), (0, iw (v1 + 1))] [] kd (zup m (m v0 9) v1 0) (zqV kd q)
    refine EvX.goto (off := (-18)) (tgt := 2) (by decide +kernel) (by decide) ?_
    exact h
set_option maxRecDepth 20000 in
set_option maxHeartbeats 1000000 in
theorem T_Table_step_0 {d : Nat} {kd : ZK} {m : ZM} {q : ZM → Prop} {v0 : Int} (h : (zobj kd v0 5 ∧ (Ev (d + 1) M_Table_step 0 0 7 [(2, v0), (0, iw ((m v0 0) - 1))] [] kd m (zqV kd q)))) : Ev (d + 1) M_Table_step 0 0 0 [(2, v0), zJ] [] kd m (zqV kd q) := by
  obtain ⟨o1, h⟩ := h
  refine EvX.blk (pc' := 7) [(.aload_n 0, 0, 0), (.getfield 9, 5, 0), (.iconst 1, 0, 0), (.isub, 0, 0), (.istore_n 1, 0, 0)] (by decide +kernel) ⟨g_Table_9, trivial⟩ ⟨o1, ?_⟩
  show Ev (d + 1) M_Table_step 0 0 7 [(2, v0), (0, iw ((m v0 0) - 1))] [] kd m (zqV kd q)
  exact h
theorem S_Table_step {d : Nat} {kd : ZK} {m : ZM} {q : ZM → Prop} {v0 : Int} (h : (zobj kd v0 5 ∧ (Ev (d + 1) M_Table_step 0 0 7 [(2, v0), (0, iw ((m v0 0) - 1))] [] kd m (zqV kd q)))) : CtV (d + 1) M_Table_step [(2, v0)] kd m q :=
  Ct.start k_Table_step (Nat.le_of_ble_eq_true rfl) ⟨0, Or.inl ⟨rfl, rfl⟩⟩ (T_Table_step_0 h)
set_option maxRecDepth 20000 in
set_option maxHeartbeats 1000000 in
theorem T_Table_step_7 {d : Nat} {kd : ZK} {m : ZM} {q : ZM → Prop} {v0 v1 : Int} (h : ((v1 < 0 → (Ev (d + 1) M_Table_step 0 0 39 [(2, v0), (0, v1)] [] kd m (zqV kd q))) ∧ (¬ v1 < 0 → (zobj kd v0 5 ∧ zIn kd (m v0 9) 0 v1 ∧ zobj kd v0 5 ∧ (((m (m v0 9) v1) ≠ (iw ((m v0 1) - 1)) → (Ev (d + 1) M_Table_step 0 0 39 [(2, v0), (0, v1)] [] kd m (zqV kd q))) ∧ (¬ (m (m v0 9) v1) ≠ (iw ((m v0 1) - 1)) → (zobj kd v0 5 ∧ zIn kd (m v0 9) 0 v1 ∧ (Ev (d + 1) M_Table_step 0 0 7 [(2, v0), (0, iw (v1 + (-1)))] [] kd (zup m (m v0 9) v1 0) (zqV kd q))))))))) : Ev (d + 1) M_Table_step 0 0 7 [(2, v0), (0, v1)] [] kd m (zqV kd q) := by
  refine EvX.blk (pc' := 8) [(.iload_n 1, 0, 0)] (by decide +kernel) trivial ?_
  show Ev (d + 1) M_Table_step 0 0 8 [(2, v0), (0, v1)] [(0, v1)] kd m (zqV kd q)
  refine EvX.if_lt (off := 31) (tgt := 39) (by decide +kernel) (by decide) (fun hc => ?_) (fun hc => ?_)
  · have h := h.1 hc
    exact h
  · have h := h.2 hc
    obtain ⟨o1, o2, o3, h⟩ := h
    refine EvX.blk (pc' := 23) [(.aload_n 0, 0, 0), (.getfield 41, 5, 9), (.iload_n 1, 0, 0), (.iaload, 0, 0), (.aload_n 0, 0, 0), (.getfield 15, 5, 1), (.iconst 1, 0, 0), (.isub, 0, 0)] (by decide +kernel) ⟨g_Table_41, g_Table_15, trivial⟩ ⟨o1, o2, o3, ?_⟩
    show Ev (d + 1) M_Table_step 0 0 23 [(2, v0), (0, v1)] [(0, iw ((m v0 1) - 1)), (0, m (m v0 9) v1)] kd m (zqV kd q)
    refine EvX.icmp_ne (off := 16) (tgt := 39) (by decide +kernel) (by decide) (fun hc => ?_) (fun hc => ?_)
    · have h := h.1 hc
      exact h
    · have h := h.2 hc
      obtain ⟨o1, o2, h⟩ := h
      refine EvX.blk (pc' := 36) [(.aload_n 0, 0, 0), (.getfield 41, 5, 9), (.iload_n 1, 0, 0), (.iconst 0, 0, 0), (.iastore, 0, 0), (.iinc 1 (-1), 0, 0)] (by decide +kernel) ⟨g_Table_41, trivial⟩ ⟨o1, o2, ?_⟩
      show Ev (d + 1) M_Table_step 0 0 36 [(2, v0), (0, iw (v1 + (-1)))] [] kd (zup m (m v0 9) v1 0) (zqV kd q)
      refine EvX.goto (off := (-29)) (tgt := 7) (by decide +kernel) (by decide) ?_
      exact h
set_option maxRecDepth 20000 in
set_option maxHeartbeats 1000000 in
theorem T_Table_step_39 {d : Nat} {kd : ZK} {m : ZM} {q : ZM → Prop} {v0 v1 : Int} (h : ((v1 < 0 → q m) ∧ (¬ v1 < 0 → (zobj kd v0 5 ∧ zIn kd (m v0 9) 0 v1 ∧ zIn kd (m v0 9) 0 v1 ∧ (zobj kd v0 5 ∧ ∃ q1, CtV d M_Table_sumFrom [(2, v0), (0, v1)] kd (zup m (m v0 9) v1 (iw ((m (m v0 9) v1) + 1))) q1 ∧ ∀ m3, q1 m3 → q m3))))) : Ev (d + 1) M_Table_step 0 0 39 [(2, v0), (0, v1)] [] kd m (zqV kd q) := by
  refine EvX.blk (pc' := 40) [(.iload_n 1, 0, 0)] (by decide +kernel) trivial ?_
  show Ev (d + 1) M_Table_step 0 0 40 [(2, v0), (0, v1)] [(0, v1)] kd m (zqV kd q)
  refine EvX.if_lt (off := 18) (tgt := 58) (by decide +kernel) (by decide) (fun hc => ?_) (fun hc => ?_)
  · have h := h.1 hc
    exact EvX.ret (r := zJ) (by decide +kernel) rfl ⟨rfl, rfl, h⟩
  · have h := h.2 hc
    obtain ⟨o1, o2, o3, h⟩ := h
    refine EvX.blk (pc' := 55) [(.aload_n 0, 0, 0), (.getfield 41, 5, 9), (.iload_n 1, 0, 0), (.dup2, 0, 0), (.iaload, 0, 0), (.iconst 1, 0, 0), (.iadd, 0, 0), (.iastore, 0, 0), (.aload_n 0, 0, 0), (.iload_n 1, 0, 0)] (by decide +kernel) ⟨g_Table_41, trivial⟩ ⟨o1, o2, o3, ?_⟩
    show Ev (d + 1) M_Table_step 0 0 55 [(2, v0), (0, v1)] [(0, v1), (2, v0)] kd (zup m (m v0 9) v1 (iw ((m (m v0 9) v1) + 1))) (zqV kd q)
    obtain ⟨ov, h⟩ := h
    obtain ⟨q1, hq, h⟩ := h
    refine EvX.callV (c := 5) (mc := 0) (ms := 0) (as := [(0, v1)]) (st := []) (by decide +kernel) l_Table_111 k_Table_sumFrom v_Table_sumFrom a_Table_sumFrom (by decide) (Nat.le_of_ble_eq_true rfl) rfl ov hq (fun r kd1 m3 hr => ?_)
    obtain ⟨rfl, hk, hr⟩ := hr
    subst kd1
    have h := h m3 hr
    show Ev (d + 1) M_Table_step 0 0 58 [(2, v0), (0, v1)] [] kd m3 (zqV kd q)
    exact EvX.ret (r := zJ) (by decide +kernel) rfl ⟨rfl, rfl, h⟩
set_option maxRecDepth 20000 in
set_option maxHeartbeats 1000000 in
theorem T_Table_clearFirstSums_0 {d : Nat} {kd : ZK} {m : ZM} {q : ZM → Prop} {v0 : Int} (h : (Ev (d + 1) M_Table_clearFirstSums 0 0 2 [(2, v0), (0, 0)] [] kd m (zqV kd q))) : Ev (d + 1) M_Table_clearFirstSums 0 0 0 [(2, v0), zJ] [] kd m (zqV kd q) := by
  refine EvX.blk (pc' := 2) [(.iconst 0, 0, 0), (.istore_n 1, 0, 0)] (by decide +kernel) trivial ?_
  show Ev (d + 1) M_Table_clearFirstSums 0 0 2 [(2, v0), (0, 0)] [] kd m (zqV kd q)
  exact h
theorem S_Table_clearFirstSums {d : Nat} {kd : ZK} {m : ZM} {q : ZM → Prop} {v0 : Int} (h : (Ev (d + 1) M_Table_clearFirstSums 0 0 2 [(2, v0), (0, 0)] [] kd m (zqV kd q))) : CtV (d + 1) M_Table_clearFirstSums [(2, v0)] kd m q :=
  Ct.start k_Table_clearFirstSums (Nat.le_of_ble_eq_true rfl) ⟨0, Or.inl ⟨rfl, rfl⟩⟩ (T_Table_clearFirstSums_0 h)
set_option maxRecDepth 20000 in
set_option maxHeartbeats 1000000 in
theorem T_Table_clearFirstSums_2 {d : Nat} {kd : ZK} {m : ZM} {q : ZM → Prop} {v0 v1 : Int} (h : (zobj kd v0 5 ∧ (((m v0 4) ≤ v1 → q m) ∧ (¬ (m v0 4) ≤ v1 → (zobj kd v0 5 ∧ zIn kd (m v0 6) 0 v1 ∧ (Ev (d + 1) M_Table_clearFirstSums 0 0 2 [(2, v0), (0, iw (v1 + 1))] [] kd (zup m (m v0 6) v1 0) (zqV kd q))))))) : Ev (d + 1) M_Table_clearFirstSums 0 0 2 [(2, v0), (0, v1)] [] kd m (zqV kd q) := by
  obtain ⟨o1, h⟩ := h
  refine EvX.blk (pc' := 7) [(.iload_n 1, 0, 0), (.aload_n 0, 0, 0), (.getfield 24, 5, 4)] (by decide +kernel) ⟨g_Table_24, trivial⟩ ⟨o1, ?_⟩
  show Ev (d + 1) M_Table_clearFirstSums 0 0 7 [(2, v0), (0, v1)] [(0, m v0 4), (0, v1)] kd m (zqV kd q)
  refine EvX.icmp_ge (off := 16) (tgt := 23) (by decide +kernel) (by decide) (fun hc => ?_) (fun hc => ?_)
  · have h := h.1 hc
    exact EvX.ret (r := zJ) (by decide +kernel) rfl ⟨rfl, rfl, h⟩
  · have h := h.2 hc
    obtain ⟨o1, o2, h⟩ := h
    refine EvX.blk (pc' := 20) [(.aload_n 0, 0, 0), (.getfield 31, 5, 6), (.iload_n 1, 0, 0), (.iconst 0, 0, 0), (.iastore, 0, 0), (.iinc 1 1, 0, 0)] (by decide +kernel) ⟨g_Table_31, trivial⟩ ⟨o1, o2, ?_⟩
    show Ev (d + 1) M_Table_clearFirstSums 0 0 20 [(2, v0), (0, iw (v1 + 1))] [] kd (zup m (m v0 6) v1 0) (zqV kd q)
    refine EvX.goto (off := (-18)) (tgt := 2) (by decide +kernel) (by decide) ?_
    exact h
set_option maxRecDepth 20000 in
set_option maxHeartbeats 1000000 in
theorem T_Table_sumFrom_0 {d : Nat} {kd : ZK} {m : ZM} {q : ZM → Prop} {v0 v1 : Int} (h : (Ev (d + 1) M_Table_sumFrom 0 0 2 [(2, v0), zJ, (0, v1)] [] kd m (zqV kd q))) : Ev (d + 1) M_Table_sumFrom 0 0 0 [(2, v0), (0, v1), zJ] [] kd m (zqV kd q) := by
  refine EvX.blk (pc' := 2) [(.iload_n 1, 0, 0), (.istore_n 2, 0, 0)] (by decide +kernel) trivial ?_
  show Ev (d + 1) M_Table_sumFrom 0 0 2 [(2, v0), (0, v1), (0, v1)] [] kd m (zqV kd q)
  exact EvX.weak (ls2 := [(2, v0), zJ, (0, v1)]) (zwk_of ⟨Or.inr rfl, Or.inl rfl, Or.inr rfl, trivial⟩) h
theorem S_Table_sumFrom {d : Nat} {kd : ZK} {m : ZM} {q : ZM → Prop} {v0 v1 : Int} (h : (Ev (d + 1) M_Table_sumFrom 0 0 2 [(2, v0), zJ, (0, v1)] [] kd m (zqV kd q))) : CtV (d + 1) M_Table_sumFrom [(2, v0), (0, v1)] kd m q :=
  Ct.start k_Table_sumFrom (Nat.le_of_ble_eq_true rfl) ⟨0, Or.inl ⟨rfl, rfl⟩⟩ (T_Table_sumFrom_0 h)
set_option maxRecDepth 20000 in
set_option maxHeartbeats 1000000 in
theorem T_Table_sumFrom_2 {d : Nat} {kd : ZK} {m : ZM} {q : ZM → Prop} {v0 v2 : Int} (h : (zobj kd v0 5 ∧ (((m v0 0) ≤ v2 → q m) ∧ (¬ (m v0 0) ≤ v2 → (zobj kd v0 5 ∧ zIn kd (m v0 9) 0 v2 ∧ (zobj kd v0 5 ∧ ∃ q1, CtV d M_Table_addLine [(2, v0), (0, v2), (0, m (m v0 9) v2)] kd m q1 ∧ ∀ m3, q1 m3 → (Ev (d + 1) M_Table_sumFrom 0 0 2 [(2, v0), zJ, (0, iw (v2 + 1))] [] kd m3 (zqV kd q)))))))) : Ev (d + 1) M_Table_sumFrom 0 0 2 [(2, v0), zJ, (0, v2)] [] kd m (zqV kd q) := by
  obtain ⟨o1, h⟩ := h
  refine EvX.blk (pc' := 7) [(.iload_n 2, 0, 0), (.aload_n 0, 0, 0), (.getfield 9, 5, 0)] (by decide +kernel) ⟨g_Table_9, trivial⟩ ⟨o1, ?_⟩
  show Ev (d + 1) M_Table_sumFrom 0 0 7 [(2, v0), zJ, (0, v2)] [(0, m v0 0), (0, v2)] kd m (zqV kd q)
  refine EvX.icmp_ge (off := 20) (tgt := 27) (by decide +kernel) (by decide) (fun hc => ?_) (fun hc => ?_)
  · have h := h.1 hc
    exact EvX.ret (r := zJ) (by decide +kernel) rfl ⟨rfl, rfl, h⟩
  · have h := h.2 hc
    obtain ⟨o1, o2, h⟩ := h
    refine EvX.blk (pc' := 18) [(.aload_n 0, 0, 0), (.iload_n 2, 0, 0), (.aload_n 0, 0, 0), (.getfield 41, 5, 9), (.iload_n 2, 0, 0), (.iaload, 0, 0)] (by decide +kernel) ⟨g_Table_41, trivial⟩ ⟨o1, o2, ?_⟩
    show Ev (d + 1) M_Table_sumFrom 0 0 18 [(2, v0), zJ, (0, v2)] [(0, m (m v0 9) v2), (0, v2), (2, v0)] kd m (zqV kd q)
    obtain ⟨ov, h⟩ := h
    obtain ⟨q1, hq, h⟩ := h
    refine EvX.callV (c := 5) (mc := 0) (ms := 0) (as := [(0, v2), (0, m (m v0 9) v2)]) (st := []) (by decide +kernel) l_Table_115 k_Table_addLine v_Table_addLine a_Table_addLine (by decide) (Nat.le_of_ble_eq_true rfl) rfl ov hq (fun r kd1 m3 hr => ?_)
    obtain ⟨rfl, hk, hr⟩ := hr
    subst kd1
    have h := h m3 hr
    show Ev (d + 1) M_Table_sumFrom 0 0 21 [(2, v0), zJ, (0, v2)] [] kd m3 (zqV kd q)
    refine EvX.blk (pc' := 24) [(.iinc 2 1, 0, 0)] (by decide +kernel) trivial ?_
    show Ev (d + 1) M_Table_sumFrom 0 0 24 [(2, v0), zJ, (0, iw (v2 + 1))] [] kd m3 (zqV kd q)
    refine EvX.goto (off := (-22)) (tgt := 2) (by decide +kernel) (by decide) ?_
    exact h
set_option maxRecDepth 20000 in
set_option maxHeartbeats 1000000 in
theorem T_Table_addLine_0 {d : Nat} {kd : ZK} {m : ZM} {q : ZM → Prop} {v0 v1 v2 : Int} (h : (zobj kd v0 5 ∧ zobj kd v0 5 ∧ zobj kd v0 5 ∧ zobj kd v0 5 ∧ (Ev (d + 1) M_Table_addLine 0 0 33 [(2, v0), zJ, zJ, (0, iw (v1 * (m v0 4))), (0, iw ((iw (v1 * (m v0 4))) + (m v0 4))), (0, iw ((iw ((iw (v1 * (m v0 1))) + v2)) * (m v0 4))), (0, 0)] [] kd m (zqV kd q)))) : Ev (d + 1) M_Table_addLine 0 0 0 [(2, v0), (0, v1), (0, v2), zJ, zJ, zJ, zJ] [] kd m (zqV kd q) := by
  obtain ⟨o1, o2, o3, o4, h⟩ := h
  refine EvX.blk (pc' := 33) [(.iload_n 1, 0, 0), (.aload_n 0, 0, 0), (.getfield 24, 5, 4), (.imul, 0, 0), (.istore_n 3, 0, 0), (.iload_n 3, 0, 0), (.aload_n 0, 0, 0), (.getfield 24, 5, 4), (.iadd, 0, 0), (.istore 4, 0, 0), (.iload_n 1, 0, 0), (.aload_n 0, 0, 0), (.getfield 15, 5, 1), (.imul, 0, 0), (.iload_n 2, 0, 0), (.iadd, 0, 0), (.aload_n 0, 0, 0), (.getfield 24, 5, 4), (.imul, 0, 0), (.istore 5, 0, 0), (.iconst 0, 0, 0), (.istore 6, 0, 0)] (by decide +kernel) ⟨g_Table_24, g_Table_24, g_Table_15, g_Table_24, trivial⟩ ⟨o1, o2, o3, o4, ?_⟩
  show Ev (d + 1) M_Table_addLine 0 0 33 [(2, v0), (0, v1), (0, v2), (0, iw (v1 * (m v0 4))), (0, iw ((iw (v1 * (m v0 4))) + (m v0 4))), (0, iw ((iw ((iw (v1 * (m v0 1))) + v2)) * (m v0 4))), (0, 0)] [] kd m (zqV kd q)
  exact EvX.weak (ls2 := [(2, v0), zJ, zJ, (0, iw (v1 * (m v0 4))), (0, iw ((iw (v1 * (m v0 4))) + (m v0 4))), (0, iw ((iw ((iw (v1 * (m v0 1))) + v2)) * (m v0 4))), (0, 0)]) (zwk_of ⟨Or.inr rfl, Or.inl rfl, Or.inl rfl, Or.inr rfl, Or.inr rfl, Or.inr rfl, Or.inr rfl, trivial⟩) h
theorem S_Table_addLine {d : Nat} {kd : ZK} {m : ZM} {q : ZM → Prop} {v0 v1 v2 : Int} (h : (zobj kd v0 5 ∧ zobj kd v0 5 ∧ zobj kd v0 5 ∧ zobj kd v0 5 ∧ (Ev (d + 1) M_Table_addLine 0 0 33 [(2, v0), zJ, zJ, (0, iw (v1 * (m v0 4))), (0, iw ((iw (v1 * (m v0 4))) + (m v0 4))), (0, iw ((iw ((iw (v1 * (m v0 1))) + v2)) * (m v0 4))), (0, 0)] [] kd m (zqV kd q)))) : CtV (d + 1) M_Table_addLine [(2, v0), (0, v1), (0, v2)] kd m q :=
  Ct.start k_Table_addLine (Nat.le_of_ble_eq_true rfl) ⟨0, Or.inl ⟨rfl, rfl⟩⟩ (T_Table_addLine_0 h)
set_option maxRecDepth 20000 in
set_option maxHeartbeats 1000000 in
theorem T_Table_addLine_33 {d : Nat} {kd : ZK} {m : ZM} {q : ZM → Prop} {v0 v3 v4 v5 v6 : Int} (h : (zobj kd v0 5 ∧ (((m v0 4) ≤ v6 → q m) ∧ (¬ (m v0 4) ≤ v6 → (zobj kd v0 5 ∧ zobj kd v0 5 ∧ zIn kd (m v0 6) 0 (iw (v3 + v6)) ∧ zobj kd v0 5 ∧ zIn kd (m v0 5) 0 (iw (v5 + v6)) ∧ zIn kd (m v0 6) 0 (iw (v4 + v6)) ∧ (Ev (d + 1) M_Table_addLine 0 0 33 [(2, v0), zJ, zJ, (0, v3), (0, v4), (0, v5), (0, iw (v6 + 1))] [] kd (zup m (m v0 6) (iw (v4 + v6)) (iw ((m (m v0 6) (iw (v3 + v6))) + (m (m v0 5) (iw (v5 + v6)))))) (zqV kd q))))))) : Ev (d + 1) M_Table_addLine 0 0 33 [(2, v0), zJ, zJ, (0, v3), (0, v4), (0, v5), (0, v6)] [] kd m (zqV kd q) := by
  obtain ⟨o1, h⟩ := h
  refine EvX.blk (pc' := 39) [(.iload 6, 0, 0), (.aload_n 0, 0, 0), (.getfield 24, 5, 4)] (by decide +kernel) ⟨g_Table_24, trivial⟩ ⟨o1, ?_⟩
  show Ev (d + 1) M_Table_addLine 0 0 39 [(2, v0), zJ, zJ, (0, v3), (0, v4), (0, v5), (0, v6)] [(0, m v0 4), (0, v6)] kd m (zqV kd q)
  refine EvX.icmp_ge (off := 39) (tgt := 78) (by decide +kernel) (by decide) (fun hc => ?_) (fun hc => ?_)
  · have h := h.1 hc
    exact EvX.ret (r := zJ) (by decide +kernel) rfl ⟨rfl, rfl, h⟩
  · have h := h.2 hc
    obtain ⟨o1, o2, o3, o4, o5, o6, h⟩ := h
    refine EvX.blk (pc' := 75) [(.aload_n 0, 0, 0), (.getfield 31, 5, 6), (.iload 4, 0, 0), (.iload 6, 0, 0), (.iadd, 0, 0), (.aload_n 0, 0, 0), (.getfield 31, 5, 6), (.iload_n 3, 0, 0), (.iload 6, 0, 0), (.iadd, 0, 0), (.iaload, 0, 0), (.aload_n 0, 0, 0), (.getfield 27, 5, 5), (.iload 5, 0, 0), (.iload 6, 0, 0), (.iadd, 0, 0), (.iaload, 0, 0), (.iadd, 0, 0), (.iastore, 0, 0), (.iinc 6 1, 0, 0)] (by decide +kernel) ⟨g_Table_31, g_Table_31, g_Table_27, trivial⟩ ⟨o1, o2, o3, o4, o5, o6, ?_⟩
    show Ev (d + 1) M_Table_addLine 0 0 75 [(2, v0), zJ, zJ, (0, v3), (0, v4), (0, v5), (0, iw (v6 + 1))] [] kd (zup m (m v0 6) (iw (v4 + v6)) (iw ((m (m v0 6) (iw (v3 + v6))) + (m (m v0 5) (iw (v5 + v6)))))) (zqV kd q)
    refine EvX.goto (off := (-42)) (tgt := 33) (by decide +kernel) (by decide) ?_
    exact h
set_option maxRecDepth 20000 in
set_option maxHeartbeats 1000000 in
theorem T_Table_highAt_0 {d : Nat} {kd : ZK} {m : ZM} {q : Int → ZM → Prop} {v0 v1 : Int} (h : (zobj kd v0 5 ∧ zobj kd v0 5 ∧ zobj kd v0 5 ∧ zobj kd v0 5 ∧ zIn kd (m v0 6) 0 (iw ((iw ((m v0 0) * (m v0 4))) + (iw (v1 * (m v0 3))))) ∧ (Ev (d + 1) M_Table_highAt 0 0 29 [(2, v0), zJ, (0, iw ((iw ((m v0 0) * (m v0 4))) + (iw (v1 * (m v0 3))))), (0, m (m v0 6) (iw ((iw ((m v0 0) * (m v0 4))) + (iw (v1 * (m v0 3)))))), (0, iw ((iw ((iw ((m v0 0) * (m v0 4))) + (iw (v1 * (m v0 3))))) + 1))] [] kd m (zqI kd q)))) : Ev (d + 1) M_Table_highAt 0 0 0 [(2, v0), (0, v1), zJ, zJ, zJ] [] kd m (zqI kd q) := by
  obtain ⟨o1, o2, o3, o4, o5, h⟩ := h
  refine EvX.blk (pc' := 29) [(.aload_n 0, 0, 0), (.getfield 9, 5, 0), (.aload_n 0, 0, 0), (.getfield 24, 5, 4), (.imul, 0, 0), (.iload_n 1, 0, 0), (.aload_n 0, 0, 0), (.getfield 21, 5, 3), (.imul, 0, 0), (.iadd, 0, 0), (.istore_n 2, 0, 0), (.aload_n 0, 0, 0), (.getfield 31, 5, 6), (.iload_n 2, 0, 0), (.iaload, 0, 0), (.istore_n 3, 0, 0), (.iload_n 2, 0, 0), (.iconst 1, 0, 0), (.iadd, 0, 0), (.istore 4, 0, 0)] (by decide +kernel) ⟨g_Table_9, g_Table_24, g_Table_21, g_Table_31, trivial⟩ ⟨o1, o2, o3, o4, o5, ?_⟩
  show Ev (d + 1) M_Table_highAt 0 0 29 [(2, v0), (0, v1), (0, iw ((iw ((m v0 0) * (m v0 4))) + (iw (v1 * (m v0 3))))), (0, m (m v0 6) (iw ((iw ((m v0 0) * (m v0 4))) + (iw (v1 * (m v0 3)))))), (0, iw ((iw ((iw ((m v0 0) * (m v0 4))) + (iw (v1 * (m v0 3))))) + 1))] [] kd m (zqI kd q)
  exact EvX.weak (ls2 := [(2, v0), zJ, (0, iw ((iw ((m v0 0) * (m v0 4))) + (iw (v1 * (m v0 3))))), (0, m (m v0 6) (iw ((iw ((m v0 0) * (m v0 4))) + (iw (v1 * (m v0 3)))))), (0, iw ((iw ((iw ((m v0 0) * (m v0 4))) + (iw (v1 * (m v0 3))))) + 1))]) (zwk_of ⟨Or.inr rfl, Or.inl rfl, Or.inr rfl, Or.inr rfl, Or.inr rfl, trivial⟩) h
theorem S_Table_highAt {d : Nat} {kd : ZK} {m : ZM} {q : Int → ZM → Prop} {v0 v1 : Int} (h : (zobj kd v0 5 ∧ zobj kd v0 5 ∧ zobj kd v0 5 ∧ zobj kd v0 5 ∧ zIn kd (m v0 6) 0 (iw ((iw ((m v0 0) * (m v0 4))) + (iw (v1 * (m v0 3))))) ∧ (Ev (d + 1) M_Table_highAt 0 0 29 [(2, v0), zJ, (0, iw ((iw ((m v0 0) * (m v0 4))) + (iw (v1 * (m v0 3))))), (0, m (m v0 6) (iw ((iw ((m v0 0) * (m v0 4))) + (iw (v1 * (m v0 3)))))), (0, iw ((iw ((iw ((m v0 0) * (m v0 4))) + (iw (v1 * (m v0 3))))) + 1))] [] kd m (zqI kd q)))) : CtI (d + 1) M_Table_highAt [(2, v0), (0, v1)] kd m q :=
  Ct.start k_Table_highAt (Nat.le_of_ble_eq_true rfl) ⟨1, Or.inr (Or.inl ⟨rfl, rfl⟩)⟩ (T_Table_highAt_0 h)
set_option maxRecDepth 20000 in
set_option maxHeartbeats 1000000 in
theorem T_Table_highAt_29 {d : Nat} {kd : ZK} {m : ZM} {q : Int → ZM → Prop} {v0 v2 v3 v4 : Int} (h : (zobj kd v0 5 ∧ (((iw (v2 + (m v0 3))) ≤ v4 → q v3 m) ∧ (¬ (iw (v2 + (m v0 3))) ≤ v4 → (zobj kd v0 5 ∧ zIn kd (m v0 6) 0 v4 ∧ (Ev (d + 1) M_Table_highAt 0 0 29 [(2, v0), zJ, (0, v2), (0, zmax v3 (m (m v0 6) v4)), (0, iw (v4 + 1))] [] kd m (zqI kd q))))))) : Ev (d + 1) M_Table_highAt 0 0 29 [(2, v0), zJ, (0, v2), (0, v3), (0, v4)] [] kd m (zqI kd q) := by
  obtain ⟨o1, h⟩ := h
  refine EvX.blk (pc' := 37) [(.iload 4, 0, 0), (.iload_n 2, 0, 0), (.aload_n 0, 0, 0), (.getfield 21, 5, 3), (.iadd, 0, 0)] (by decide +kernel) ⟨g_Table_21, trivial⟩ ⟨o1, ?_⟩
  show Ev (d + 1) M_Table_highAt 0 0 37 [(2, v0), zJ, (0, v2), (0, v3), (0, v4)] [(0, iw (v2 + (m v0 3))), (0, v4)] kd m (zqI kd q)
  refine EvX.icmp_ge (off := 21) (tgt := 58) (by decide +kernel) (by decide) (fun hc => ?_) (fun hc => ?_)
  · have h := h.1 hc
    refine EvX.blk (pc' := 59) [(.iload_n 3, 0, 0)] (by decide +kernel) trivial ?_
    show Ev (d + 1) M_Table_highAt 0 0 59 [(2, v0), zJ, (0, v2), (0, v3), (0, v4)] [(0, v3)] kd m (zqI kd q)
    exact EvX.ret (r := (0, v3)) (by decide +kernel) rfl ⟨_, rfl, rfl, h⟩
  · have h := h.2 hc
    obtain ⟨o1, o2, h⟩ := h
    refine EvX.blk (pc' := 48) [(.iload_n 3, 0, 0), (.aload_n 0, 0, 0), (.getfield 31, 5, 6), (.iload 4, 0, 0), (.iaload, 0, 0)] (by decide +kernel) ⟨g_Table_31, trivial⟩ ⟨o1, o2, ?_⟩
    show Ev (d + 1) M_Table_highAt 0 0 48 [(2, v0), zJ, (0, v2), (0, v3), (0, v4)] [(0, m (m v0 6) v4), (0, v3)] kd m (zqI kd q)
    refine EvX.mmax' (by decide +kernel) y_Table_119 (Nat.le_of_ble_eq_true rfl) ?_
    show Ev (d + 1) M_Table_highAt 0 0 51 [(2, v0), zJ, (0, v2), (0, v3), (0, v4)] [(0, zmax v3 (m (m v0 6) v4))] kd m (zqI kd q)
    refine EvX.blk (pc' := 55) [(.istore_n 3, 0, 0), (.iinc 4 1, 0, 0)] (by decide +kernel) trivial ?_
    show Ev (d + 1) M_Table_highAt 0 0 55 [(2, v0), zJ, (0, v2), (0, zmax v3 (m (m v0 6) v4)), (0, iw (v4 + 1))] [] kd m (zqI kd q)
    refine EvX.goto (off := (-26)) (tgt := 29) (by decide +kernel) (by decide) ?_
    exact h
set_option maxRecDepth 20000 in
set_option maxHeartbeats 1000000 in
theorem T_Table_lowAt_0 {d : Nat} {kd : ZK} {m : ZM} {q : Int → ZM → Prop} {v0 v1 : Int} (h : (zobj kd v0 5 ∧ zobj kd v0 5 ∧ zobj kd v0 5 ∧ zobj kd v0 5 ∧ zIn kd (m v0 6) 0 (iw ((iw ((m v0 0) * (m v0 4))) + (iw (v1 * (m v0 3))))) ∧ (Ev (d + 1) M_Table_lowAt 0 0 29 [(2, v0), zJ, (0, iw ((iw ((m v0 0) * (m v0 4))) + (iw (v1 * (m v0 3))))), (0, m (m v0 6) (iw ((iw ((m v0 0) * (m v0 4))) + (iw (v1 * (m v0 3)))))), (0, iw ((iw ((iw ((m v0 0) * (m v0 4))) + (iw (v1 * (m v0 3))))) + 1))] [] kd m (zqI kd q)))) : Ev (d + 1) M_Table_lowAt 0 0 0 [(2, v0), (0, v1), zJ, zJ, zJ] [] kd m (zqI kd q) := by
  obtain ⟨o1, o2, o3, o4, o5, h⟩ := h
  refine EvX.blk (pc' := 29) [(.aload_n 0, 0, 0), (.getfield 9, 5, 0), (.aload_n 0, 0, 0), (.getfield 24, 5, 4), (.imul, 0, 0), (.iload_n 1, 0, 0), (.aload_n 0, 0, 0), (.getfield 21, 5, 3), (.imul, 0, 0), (.iadd, 0, 0), (.istore_n 2, 0, 0), (.aload_n 0, 0, 0), (.getfield 31, 5, 6), (.iload_n 2, 0, 0), (.iaload, 0, 0), (.istore_n 3, 0, 0), (.iload_n 2, 0, 0), (.iconst 1, 0, 0), (.iadd, 0, 0), (.istore 4, 0, 0)] (by decide +kernel) ⟨g_Table_9, g_Table_24, g_Table_21, g_Table_31, trivial⟩ ⟨o1, o2, o3, o4, o5, ?_⟩
  show Ev (d + 1) M_Table_lowAt 0 0 29 [(2, v0), (0, v1), (0, iw ((iw ((m v0 0) * (m v0 4))) + (iw (v1 * (m v0 3))))), (0, m (m v0 6) (iw ((iw ((m v0 0) * (m v0 4))) + (iw (v1 * (m v0 3)))))), (0, iw ((iw ((iw ((m v0 0) * (m v0 4))) + (iw (v1 * (m v0 3))))) + 1))] [] kd m (zqI kd q)
  exact EvX.weak (ls2 := [(2, v0), zJ, (0, iw ((iw ((m v0 0) * (m v0 4))) + (iw (v1 * (m v0 3))))), (0, m (m v0 6) (iw ((iw ((m v0 0) * (m v0 4))) + (iw (v1 * (m v0 3)))))), (0, iw ((iw ((iw ((m v0 0) * (m v0 4))) + (iw (v1 * (m v0 3))))) + 1))]) (zwk_of ⟨Or.inr rfl, Or.inl rfl, Or.inr rfl, Or.inr rfl, Or.inr rfl, trivial⟩) h
theorem S_Table_lowAt {d : Nat} {kd : ZK} {m : ZM} {q : Int → ZM → Prop} {v0 v1 : Int} (h : (zobj kd v0 5 ∧ zobj kd v0 5 ∧ zobj kd v0 5 ∧ zobj kd v0 5 ∧ zIn kd (m v0 6) 0 (iw ((iw ((m v0 0) * (m v0 4))) + (iw (v1 * (m v0 3))))) ∧ (Ev (d + 1) M_Table_lowAt 0 0 29 [(2, v0), zJ, (0, iw ((iw ((m v0 0) * (m v0 4))) + (iw (v1 * (m v0 3))))), (0, m (m v0 6) (iw ((iw ((m v0 0) * (m v0 4))) + (iw (v1 * (m v0 3)))))), (0, iw ((iw ((iw ((m v0 0) * (m v0 4))) + (iw (v1 * (m v0 3))))) + 1))] [] kd m (zqI kd q)))) : CtI (d + 1) M_Table_lowAt [(2, v0), (0, v1)] kd m q :=
  Ct.start k_Table_lowAt (Nat.le_of_ble_eq_true rfl) ⟨1, Or.inr (Or.inl ⟨rfl, rfl⟩)⟩ (T_Table_lowAt_0 h)
set_option maxRecDepth 20000 in
set_option maxHeartbeats 1000000 in
theorem T_Table_lowAt_29 {d : Nat} {kd : ZK} {m : ZM} {q : Int → ZM → Prop} {v0 v2 v3 v4 : Int} (h : (zobj kd v0 5 ∧ (((iw (v2 + (m v0 3))) ≤ v4 → q v3 m) ∧ (¬ (iw (v2 + (m v0 3))) ≤ v4 → (zobj kd v0 5 ∧ zIn kd (m v0 6) 0 v4 ∧ (Ev (d + 1) M_Table_lowAt 0 0 29 [(2, v0), zJ, (0, v2), (0, zmin v3 (m (m v0 6) v4)), (0, iw (v4 + 1))] [] kd m (zqI kd q))))))) : Ev (d + 1) M_Table_lowAt 0 0 29 [(2, v0), zJ, (0, v2), (0, v3), (0, v4)] [] kd m (zqI kd q) := by
  obtain ⟨o1, h⟩ := h
  refine EvX.blk (pc' := 37) [(.iload 4, 0, 0), (.iload_n 2, 0, 0), (.aload_n 0, 0, 0), (.getfield 21, 5, 3), (.iadd, 0, 0)] (by decide +kernel) ⟨g_Table_21, trivial⟩ ⟨o1, ?_⟩
  show Ev (d + 1) M_Table_lowAt 0 0 37 [(2, v0), zJ, (0, v2), (0, v3), (0, v4)] [(0, iw (v2 + (m v0 3))), (0, v4)] kd m (zqI kd q)
  refine EvX.icmp_ge (off := 21) (tgt := 58) (by decide +kernel) (by decide) (fun hc => ?_) (fun hc => ?_)
  · have h := h.1 hc
    refine EvX.blk (pc' := 59) [(.iload_n 3, 0, 0)] (by decide +kernel) trivial ?_
    show Ev (d + 1) M_Table_lowAt 0 0 59 [(2, v0), zJ, (0, v2), (0, v3), (0, v4)] [(0, v3)] kd m (zqI kd q)
    exact EvX.ret (r := (0, v3)) (by decide +kernel) rfl ⟨_, rfl, rfl, h⟩
  · have h := h.2 hc
    obtain ⟨o1, o2, h⟩ := h
    refine EvX.blk (pc' := 48) [(.iload_n 3, 0, 0), (.aload_n 0, 0, 0), (.getfield 31, 5, 6), (.iload 4, 0, 0), (.iaload, 0, 0)] (by decide +kernel) ⟨g_Table_31, trivial⟩ ⟨o1, o2, ?_⟩
    show Ev (d + 1) M_Table_lowAt 0 0 48 [(2, v0), zJ, (0, v2), (0, v3), (0, v4)] [(0, m (m v0 6) v4), (0, v3)] kd m (zqI kd q)
    refine EvX.mmin' (by decide +kernel) y_Table_124 (Nat.le_of_ble_eq_true rfl) ?_
    show Ev (d + 1) M_Table_lowAt 0 0 51 [(2, v0), zJ, (0, v2), (0, v3), (0, v4)] [(0, zmin v3 (m (m v0 6) v4))] kd m (zqI kd q)
    refine EvX.blk (pc' := 55) [(.istore_n 3, 0, 0), (.iinc 4 1, 0, 0)] (by decide +kernel) trivial ?_
    show Ev (d + 1) M_Table_lowAt 0 0 55 [(2, v0), zJ, (0, v2), (0, zmin v3 (m (m v0 6) v4)), (0, iw (v4 + 1))] [] kd m (zqI kd q)
    refine EvX.goto (off := (-26)) (tgt := 29) (by decide +kernel) (by decide) ?_
    exact h
set_option maxRecDepth 20000 in
set_option maxHeartbeats 1000000 in
theorem T_Table_high_0 {d : Nat} {kd : ZK} {m : ZM} {q : Int → ZM → Prop} {v0 : Int} (h : (Ev (d + 1) M_Table_high 0 0 4 [(2, v0), (0, 0), (0, 0)] [] kd m (zqI kd q))) : Ev (d + 1) M_Table_high 0 0 0 [(2, v0), zJ, zJ] [] kd m (zqI kd q) := by
  refine EvX.blk (pc' := 4) [(.iconst 0, 0, 0), (.istore_n 1, 0, 0), (.iconst 0, 0, 0), (.istore_n 2, 0, 0)] (by decide +kernel) trivial ?_
  show Ev (d + 1) M_Table_high 0 0 4 [(2, v0), (0, 0), (0, 0)] [] kd m (zqI kd q)
  exact h
theorem S_Table_high {d : Nat} {kd : ZK} {m : ZM} {q : Int → ZM → Prop} {v0 : Int} (h : (Ev (d + 1) M_Table_high 0 0 4 [(2, v0), (0, 0), (0, 0)] [] kd m (zqI kd q))) : CtI (d + 1) M_Table_high [(2, v0)] kd m q :=
  Ct.start k_Table_high (Nat.le_of_ble_eq_true rfl) ⟨1, Or.inr (Or.inl ⟨rfl, rfl⟩)⟩ (T_Table_high_0 h)
set_option maxRecDepth 20000 in
set_option maxHeartbeats 1000000 in
theorem T_Table_high_4 {d : Nat} {kd : ZK} {m : ZM} {q : Int → ZM → Prop} {v0 v1 v2 : Int} (h : (zobj kd v0 5 ∧ (((m v0 2) ≤ v2 → q v1 m) ∧ (¬ (m v0 2) ≤ v2 → (zobj kd v0 5 ∧ ∃ q1, CtI d M_Table_highAt [(2, v0), (0, v2)] kd m q1 ∧ ∀ x2 m3, q1 x2 m3 → (Ev (d + 1) M_Table_high 0 0 4 [(2, v0), (0, iw (v1 + x2)), (0, iw (v2 + 1))] [] kd m3 (zqI kd q))))))) : Ev (d + 1) M_Table_high 0 0 4 [(2, v0), (0, v1), (0, v2)] [] kd m (zqI kd q) := by
  obtain ⟨o1, h⟩ := h
  refine EvX.blk (pc' := 9) [(.iload_n 2, 0, 0), (.aload_n 0, 0, 0), (.getfield 18, 5, 2)] (by decide +kernel) ⟨g_Table_18, trivial⟩ ⟨o1, ?_⟩
  show Ev (d + 1) M_Table_high 0 0 9 [(2, v0), (0, v1), (0, v2)] [(0, m v0 2), (0, v2)] kd m (zqI kd q)
  refine EvX.icmp_ge (off := 17) (tgt := 26) (by decide +kernel) (by decide) (fun hc => ?_) (fun hc => ?_)
  · have h := h.1 hc
    refine EvX.blk (pc' := 27) [(.iload_n 1, 0, 0)] (by decide +kernel) trivial ?_
    show Ev (d + 1) M_Table_high 0 0 27 [(2, v0), (0, v1), (0, v2)] [(0, v1)] kd m (zqI kd q)
    exact EvX.ret (r := (0, v1)) (by decide +kernel) rfl ⟨_, rfl, rfl, h⟩
  · have h := h.2 hc
    refine EvX.blk (pc' := 15) [(.iload_n 1, 0, 0), (.aload_n 0, 0, 0), (.iload_n 2, 0, 0)] (by decide +kernel) trivial ?_
    show Ev (d + 1) M_Table_high 0 0 15 [(2, v0), (0, v1), (0, v2)] [(0, v2), (2, v0), (0, v1)] kd m (zqI kd q)
    obtain ⟨ov, h⟩ := h
    obtain ⟨q1, hq, h⟩ := h
    refine EvX.callV (c := 5) (mc := 0) (ms := 0) (as := [(0, v2)]) (st := [(0, v1)]) (by decide +kernel) l_Table_127 k_Table_highAt v_Table_highAt a_Table_highAt (by decide) (Nat.le_of_ble_eq_true rfl) rfl ov hq (fun r kd1 m3 hr => ?_)
    obtain ⟨x2, rfl, hk, hr⟩ := hr
    subst kd1
    have h := h x2 m3 hr
    show Ev (d + 1) M_Table_high 0 0 18 [(2, v0), (0, v1), (0, v2)] [(0, x2), (0, v1)] kd m3 (zqI kd q)
    refine EvX.blk (pc' := 23) [(.iadd, 0, 0), (.istore_n 1, 0, 0), (.iinc 2 1, 0, 0)] (by decide +kernel) trivial ?_
    show Ev (d + 1) M_Table_high 0 0 23 [(2, v0), (0, iw (v1 + x2)), (0, iw (v2 + 1))] [] kd m3 (zqI kd q)
    refine EvX.goto (off := (-19)) (tgt := 4) (by decide +kernel) (by decide) ?_
    exact h
set_option maxRecDepth 20000 in
set_option maxHeartbeats 1000000 in
theorem T_Table_low_0 {d : Nat} {kd : ZK} {m : ZM} {q : Int → ZM → Prop} {v0 : Int} (h : (Ev (d + 1) M_Table_low 0 0 4 [(2, v0), (0, 0), (0, 0)] [] kd m (zqI kd q))) : Ev (d + 1) M_Table_low 0 0 0 [(2, v0), zJ, zJ] [] kd m (zqI kd q) := by
  refine EvX.blk (pc' := 4) [(.iconst 0, 0, 0), (.istore_n 1, 0, 0), (.iconst 0, 0, 0), (.istore_n 2, 0, 0)] (by decide +kernel) trivial ?_
  show Ev (d + 1) M_Table_low 0 0 4 [(2, v0), (0, 0), (0, 0)] [] kd m (zqI kd q)
  exact h
theorem S_Table_low {d : Nat} {kd : ZK} {m : ZM} {q : Int → ZM → Prop} {v0 : Int} (h : (Ev (d + 1) M_Table_low 0 0 4 [(2, v0), (0, 0), (0, 0)] [] kd m (zqI kd q))) : CtI (d + 1) M_Table_low [(2, v0)] kd m q :=
  Ct.start k_Table_low (Nat.le_of_ble_eq_true rfl) ⟨1, Or.inr (Or.inl ⟨rfl, rfl⟩)⟩ (T_Table_low_0 h)
set_option maxRecDepth 20000 in
set_option maxHeartbeats 1000000 in
theorem T_Table_low_4 {d : Nat} {kd : ZK} {m : ZM} {q : Int → ZM → Prop} {v0 v1 v2 : Int} (h : (zobj kd v0 5 ∧ (((m v0 2) ≤ v2 → q v1 m) ∧ (¬ (m v0 2) ≤ v2 → (zobj kd v0 5 ∧ ∃ q1, CtI d M_Table_lowAt [(2, v0), (0, v2)] kd m q1 ∧ ∀ x2 m3, q1 x2 m3 → (Ev (d + 1) M_Table_low 0 0 4 [(2, v0), (0, iw (v1 + x2)), (0, iw (v2 + 1))] [] kd m3 (zqI kd q))))))) : Ev (d + 1) M_Table_low 0 0 4 [(2, v0), (0, v1), (0, v2)] [] kd m (zqI kd q) := by
  obtain ⟨o1, h⟩ := h
  refine EvX.blk (pc' := 9) [(.iload_n 2, 0, 0), (.aload_n 0, 0, 0), (.getfield 18, 5, 2)] (by decide +kernel) ⟨g_Table_18, trivial⟩ ⟨o1, ?_⟩
  show Ev (d + 1) M_Table_low 0 0 9 [(2, v0), (0, v1), (0, v2)] [(0, m v0 2), (0, v2)] kd m (zqI kd q)
  refine EvX.icmp_ge (off := 17) (tgt := 26) (by decide +kernel) (by decide) (fun hc => ?_) (fun hc => ?_)
  · have h := h.1 hc
    refine EvX.blk (pc' := 27) [(.iload_n 1, 0, 0)] (by decide +kernel) trivial ?_
    show Ev (d + 1) M_Table_low 0 0 27 [(2, v0), (0, v1), (0, v2)] [(0, v1)] kd m (zqI kd q)
    exact EvX.ret (r := (0, v1)) (by decide +kernel) rfl ⟨_, rfl, rfl, h⟩
  · have h := h.2 hc
    refine EvX.blk (pc' := 15) [(.iload_n 1, 0, 0), (.aload_n 0, 0, 0), (.iload_n 2, 0, 0)] (by decide +kernel) trivial ?_
    show Ev (d + 1) M_Table_low 0 0 15 [(2, v0), (0, v1), (0, v2)] [(0, v2), (2, v0), (0, v1)] kd m (zqI kd q)
    obtain ⟨ov, h⟩ := h
    obtain ⟨q1, hq, h⟩ := h
    refine EvX.callV (c := 5) (mc := 0) (ms := 0) (as := [(0, v2)]) (st := [(0, v1)]) (by decide +kernel) l_Table_130 k_Table_lowAt v_Table_lowAt a_Table_lowAt (by decide) (Nat.le_of_ble_eq_true rfl) rfl ov hq (fun r kd1 m3 hr => ?_)
    obtain ⟨x2, rfl, hk, hr⟩ := hr
    subst kd1
    have h := h x2 m3 hr
    show Ev (d + 1) M_Table_low 0 0 18 [(2, v0), (0, v1), (0, v2)] [(0, x2), (0, v1)] kd m3 (zqI kd q)
    refine EvX.blk (pc' := 23) [(.iadd, 0, 0), (.istore_n 1, 0, 0), (.iinc 2 1, 0, 0)] (by decide +kernel) trivial ?_
    show Ev (d + 1) M_Table_low 0 0 23 [(2, v0), (0, iw (v1 + x2)), (0, iw (v2 + 1))] [] kd m3 (zqI kd q)
    refine EvX.goto (off := (-19)) (tgt := 4) (by decide +kernel) (by decide) ?_
    exact h
set_option maxRecDepth 20000 in
set_option maxHeartbeats 1000000 in
theorem T_Table_leastLow_0 {d : Nat} {kd : ZK} {m : ZM} {q : Int → ZM → Prop} {v0 : Int} (h : (zobj kd v0 5 ∧ ∃ q1, CtI d M_Table_rows [(2, v0)] kd m q1 ∧ ∀ x2 m3, q1 x2 m3 → (zobj kd v0 5 ∧ ∃ q4, CtV d M_Table_begin [(2, v0)] kd m3 q4 ∧ ∀ m6, q4 m6 → (zobj kd v0 5 ∧ ∃ q7, CtI d M_Table_low [(2, v0)] kd m6 q7 ∧ ∀ x8 m9, q7 x8 m9 → (Ev (d + 1) M_Table_leastLow 0 0 16 [(2, v0), (0, x2), (0, x8), (0, 1)] [] kd m9 (zqI kd q)))))) : Ev (d + 1) M_Table_leastLow 0 0 0 [(2, v0), zJ, zJ, zJ] [] kd m (zqI kd q) := by
  refine EvX.blk (pc' := 1) [(.aload_n 0, 0, 0)] (by decide +kernel) trivial ?_
  show Ev (d + 1) M_Table_leastLow 0 0 1 [(2, v0), zJ, zJ, zJ] [(2, v0)] kd m (zqI kd q)
  obtain ⟨ov, h⟩ := h
  obtain ⟨q1, hq, h⟩ := h
  refine EvX.callV (c := 5) (mc := 0) (ms := 0) (as := []) (st := []) (by decide +kernel) l_Table_133 k_Table_rows v_Table_rows a_Table_rows (by decide) (Nat.le_of_ble_eq_true rfl) rfl ov hq (fun r kd1 m3 hr => ?_)
  obtain ⟨x2, rfl, hk, hr⟩ := hr
  subst kd1
  have h := h x2 m3 hr
  show Ev (d + 1) M_Table_leastLow 0 0 4 [(2, v0), zJ, zJ, zJ] [(0, x2)] kd m3 (zqI kd q)
  refine EvX.blk (pc' := 6) [(.istore_n 1, 0, 0), (.aload_n 0, 0, 0)] (by decide +kernel) trivial ?_
  show Ev (d + 1) M_Table_leastLow 0 0 6 [(2, v0), (0, x2), zJ, zJ] [(2, v0)] kd m3 (zqI kd q)
  obtain ⟨ov, h⟩ := h
  obtain ⟨q4, hq, h⟩ := h
  refine EvX.callV (c := 5) (mc := 0) (ms := 0) (as := []) (st := []) (by decide +kernel) l_Table_137 k_Table_begin v_Table_begin a_Table_begin (by decide) (Nat.le_of_ble_eq_true rfl) rfl ov hq (fun r kd1 m6 hr => ?_)
  obtain ⟨rfl, hk, hr⟩ := hr
  subst kd1
  have h := h m6 hr
  show Ev (d + 1) M_Table_leastLow 0 0 9 [(2, v0), (0, x2), zJ, zJ] [] kd m6 (zqI kd q)
  refine EvX.blk (pc' := 10) [(.aload_n 0, 0, 0)] (by decide +kernel) trivial ?_
  show Ev (d + 1) M_Table_leastLow 0 0 10 [(2, v0), (0, x2), zJ, zJ] [(2, v0)] kd m6 (zqI kd q)
  obtain ⟨ov, h⟩ := h
  obtain ⟨q7, hq, h⟩ := h
  refine EvX.callV (c := 5) (mc := 0) (ms := 0) (as := []) (st := []) (by decide +kernel) l_Table_140 k_Table_low v_Table_low a_Table_low (by decide) (Nat.le_of_ble_eq_true rfl) rfl ov hq (fun r kd1 m9 hr => ?_)
  obtain ⟨x8, rfl, hk, hr⟩ := hr
  subst kd1
  have h := h x8 m9 hr
  show Ev (d + 1) M_Table_leastLow 0 0 13 [(2, v0), (0, x2), zJ, zJ] [(0, x8)] kd m9 (zqI kd q)
  refine EvX.blk (pc' := 16) [(.istore_n 2, 0, 0), (.iconst 1, 0, 0), (.istore_n 3, 0, 0)] (by decide +kernel) trivial ?_
  show Ev (d + 1) M_Table_leastLow 0 0 16 [(2, v0), (0, x2), (0, x8), (0, 1)] [] kd m9 (zqI kd q)
  exact h
theorem S_Table_leastLow {d : Nat} {kd : ZK} {m : ZM} {q : Int → ZM → Prop} {v0 : Int} (h : (zobj kd v0 5 ∧ ∃ q1, CtI d M_Table_rows [(2, v0)] kd m q1 ∧ ∀ x2 m3, q1 x2 m3 → (zobj kd v0 5 ∧ ∃ q4, CtV d M_Table_begin [(2, v0)] kd m3 q4 ∧ ∀ m6, q4 m6 → (zobj kd v0 5 ∧ ∃ q7, CtI d M_Table_low [(2, v0)] kd m6 q7 ∧ ∀ x8 m9, q7 x8 m9 → (Ev (d + 1) M_Table_leastLow 0 0 16 [(2, v0), (0, x2), (0, x8), (0, 1)] [] kd m9 (zqI kd q)))))) : CtI (d + 1) M_Table_leastLow [(2, v0)] kd m q :=
  Ct.start k_Table_leastLow (Nat.le_of_ble_eq_true rfl) ⟨1, Or.inr (Or.inl ⟨rfl, rfl⟩)⟩ (T_Table_leastLow_0 h)
set_option maxRecDepth 20000 in
set_option maxHeartbeats 1000000 in
theorem T_Table_leastLow_16 {d : Nat} {kd : ZK} {m : ZM} {q : Int → ZM → Prop} {v0 v1 v2 v3 : Int} (h : ((v1 ≤ v3 → q v2 m) ∧ (¬ v1 ≤ v3 → (zobj kd v0 5 ∧ ∃ q1, CtV d M_Table_step [(2, v0)] kd m q1 ∧ ∀ m3, q1 m3 → (zobj kd v0 5 ∧ ∃ q4, CtI d M_Table_low [(2, v0)] kd m3 q4 ∧ ∀ x5 m6, q4 x5 m6 → (Ev (d + 1) M_Table_leastLow 0 0 16 [(2, v0), (0, v1), (0, zmin v2 x5), (0, iw (v3 + 1))] [] kd m6 (zqI kd q))))))) : Ev (d + 1) M_Table_leastLow 0 0 16 [(2, v0), (0, v1), (0, v2), (0, v3)] [] kd m (zqI kd q) := by
  refine EvX.blk (pc' := 18) [(.iload_n 3, 0, 0), (.iload_n 1, 0, 0)] (by decide +kernel) trivial ?_
  show Ev (d + 1) M_Table_leastLow 0 0 18 [(2, v0), (0, v1), (0, v2), (0, v3)] [(0, v1), (0, v3)] kd m (zqI kd q)
  refine EvX.icmp_ge (off := 22) (tgt := 40) (by decide +kernel) (by decide) (fun hc => ?_) (fun hc => ?_)
  · have h := h.1 hc
    refine EvX.blk (pc' := 41) [(.iload_n 2, 0, 0)] (by decide +kernel) trivial ?_
    show Ev (d + 1) M_Table_leastLow 0 0 41 [(2, v0), (0, v1), (0, v2), (0, v3)] [(0, v2)] kd m (zqI kd q)
    exact EvX.ret (r := (0, v2)) (by decide +kernel) rfl ⟨_, rfl, rfl, h⟩
  · have h := h.2 hc
    refine EvX.blk (pc' := 22) [(.aload_n 0, 0, 0)] (by decide +kernel) trivial ?_
    show Ev (d + 1) M_Table_leastLow 0 0 22 [(2, v0), (0, v1), (0, v2), (0, v3)] [(2, v0)] kd m (zqI kd q)
    obtain ⟨ov, h⟩ := h
    obtain ⟨q1, hq, h⟩ := h
    refine EvX.callV (c := 5) (mc := 0) (ms := 0) (as := []) (st := []) (by decide +kernel) l_Table_143 k_Table_step v_Table_step a_Table_step (by decide) (Nat.le_of_ble_eq_true rfl) rfl ov hq (fun r kd1 m3 hr => ?_)
    obtain ⟨rfl, hk, hr⟩ := hr
    subst kd1
    have h := h m3 hr
    show Ev (d + 1) M_Table_leastLow 0 0 25 [(2, v0), (0, v1), (0, v2), (0, v3)] [] kd m3 (zqI kd q)
    refine EvX.blk (pc' := 27) [(.iload_n 2, 0, 0), (.aload_n 0, 0, 0)] (by decide +kernel) trivial ?_
    show Ev (d + 1) M_Table_leastLow 0 0 27 [(2, v0), (0, v1), (0, v2), (0, v3)] [(2, v0), (0, v2)] kd m3 (zqI kd q)
    obtain ⟨ov, h⟩ := h
    obtain ⟨q4, hq, h⟩ := h
    refine EvX.callV (c := 5) (mc := 0) (ms := 0) (as := []) (st := [(0, v2)]) (by decide +kernel) l_Table_140 k_Table_low v_Table_low a_Table_low (by decide) (Nat.le_of_ble_eq_true rfl) rfl ov hq (fun r kd1 m6 hr => ?_)
    obtain ⟨x5, rfl, hk, hr⟩ := hr
    subst kd1
    have h := h x5 m6 hr
    show Ev (d + 1) M_Table_leastLow 0 0 30 [(2, v0), (0, v1), (0, v2), (0, v3)] [(0, x5), (0, v2)] kd m6 (zqI kd q)
    refine EvX.mmin' (by decide +kernel) y_Table_124 (Nat.le_of_ble_eq_true rfl) ?_
    show Ev (d + 1) M_Table_leastLow 0 0 33 [(2, v0), (0, v1), (0, v2), (0, v3)] [(0, zmin v2 x5)] kd m6 (zqI kd q)
    refine EvX.blk (pc' := 37) [(.istore_n 2, 0, 0), (.iinc 3 1, 0, 0)] (by decide +kernel) trivial ?_
    show Ev (d + 1) M_Table_leastLow 0 0 37 [(2, v0), (0, v1), (0, zmin v2 x5), (0, iw (v3 + 1))] [] kd m6 (zqI kd q)
    refine EvX.goto (off := (-21)) (tgt := 16) (by decide +kernel) (by decide) ?_
    exact h
set_option maxRecDepth 20000 in
set_option maxHeartbeats 1000000 in
theorem T_Table_mostLow_0 {d : Nat} {kd : ZK} {m : ZM} {q : Int → ZM → Prop} {v0 : Int} (h : (zobj kd v0 5 ∧ ∃ q1, CtI d M_Table_rows [(2, v0)] kd m q1 ∧ ∀ x2 m3, q1 x2 m3 → (zobj kd v0 5 ∧ ∃ q4, CtV d M_Table_begin [(2, v0)] kd m3 q4 ∧ ∀ m6, q4 m6 → (zobj kd v0 5 ∧ ∃ q7, CtI d M_Table_low [(2, v0)] kd m6 q7 ∧ ∀ x8 m9, q7 x8 m9 → (Ev (d + 1) M_Table_mostLow 0 0 16 [(2, v0), (0, x2), (0, x8), (0, 1)] [] kd m9 (zqI kd q)))))) : Ev (d + 1) M_Table_mostLow 0 0 0 [(2, v0), zJ, zJ, zJ] [] kd m (zqI kd q) := by
  refine EvX.blk (pc' := 1) [(.aload_n 0, 0, 0)] (by decide +kernel) trivial ?_
  show Ev (d + 1) M_Table_mostLow 0 0 1 [(2, v0), zJ, zJ, zJ] [(2, v0)] kd m (zqI kd q)
  obtain ⟨ov, h⟩ := h
  obtain ⟨q1, hq, h⟩ := h
  refine EvX.callV (c := 5) (mc := 0) (ms := 0) (as := []) (st := []) (by decide +kernel) l_Table_133 k_Table_rows v_Table_rows a_Table_rows (by decide) (Nat.le_of_ble_eq_true rfl) rfl ov hq (fun r kd1 m3 hr => ?_)
  obtain ⟨x2, rfl, hk, hr⟩ := hr
  subst kd1
  have h := h x2 m3 hr
  show Ev (d + 1) M_Table_mostLow 0 0 4 [(2, v0), zJ, zJ, zJ] [(0, x2)] kd m3 (zqI kd q)
  refine EvX.blk (pc' := 6) [(.istore_n 1, 0, 0), (.aload_n 0, 0, 0)] (by decide +kernel) trivial ?_
  show Ev (d + 1) M_Table_mostLow 0 0 6 [(2, v0), (0, x2), zJ, zJ] [(2, v0)] kd m3 (zqI kd q)
  obtain ⟨ov, h⟩ := h
  obtain ⟨q4, hq, h⟩ := h
  refine EvX.callV (c := 5) (mc := 0) (ms := 0) (as := []) (st := []) (by decide +kernel) l_Table_137 k_Table_begin v_Table_begin a_Table_begin (by decide) (Nat.le_of_ble_eq_true rfl) rfl ov hq (fun r kd1 m6 hr => ?_)
  obtain ⟨rfl, hk, hr⟩ := hr
  subst kd1
  have h := h m6 hr
  show Ev (d + 1) M_Table_mostLow 0 0 9 [(2, v0), (0, x2), zJ, zJ] [] kd m6 (zqI kd q)
  refine EvX.blk (pc' := 10) [(.aload_n 0, 0, 0)] (by decide +kernel) trivial ?_
  show Ev (d + 1) M_Table_mostLow 0 0 10 [(2, v0), (0, x2), zJ, zJ] [(2, v0)] kd m6 (zqI kd q)
  obtain ⟨ov, h⟩ := h
  obtain ⟨q7, hq, h⟩ := h
  refine EvX.callV (c := 5) (mc := 0) (ms := 0) (as := []) (st := []) (by decide +kernel) l_Table_140 k_Table_low v_Table_low a_Table_low (by decide) (Nat.le_of_ble_eq_true rfl) rfl ov hq (fun r kd1 m9 hr => ?_)
  obtain ⟨x8, rfl, hk, hr⟩ := hr
  subst kd1
  have h := h x8 m9 hr
  show Ev (d + 1) M_Table_mostLow 0 0 13 [(2, v0), (0, x2), zJ, zJ] [(0, x8)] kd m9 (zqI kd q)
  refine EvX.blk (pc' := 16) [(.istore_n 2, 0, 0), (.iconst 1, 0, 0), (.istore_n 3, 0, 0)] (by decide +kernel) trivial ?_
  show Ev (d + 1) M_Table_mostLow 0 0 16 [(2, v0), (0, x2), (0, x8), (0, 1)] [] kd m9 (zqI kd q)
  exact h
theorem S_Table_mostLow {d : Nat} {kd : ZK} {m : ZM} {q : Int → ZM → Prop} {v0 : Int} (h : (zobj kd v0 5 ∧ ∃ q1, CtI d M_Table_rows [(2, v0)] kd m q1 ∧ ∀ x2 m3, q1 x2 m3 → (zobj kd v0 5 ∧ ∃ q4, CtV d M_Table_begin [(2, v0)] kd m3 q4 ∧ ∀ m6, q4 m6 → (zobj kd v0 5 ∧ ∃ q7, CtI d M_Table_low [(2, v0)] kd m6 q7 ∧ ∀ x8 m9, q7 x8 m9 → (Ev (d + 1) M_Table_mostLow 0 0 16 [(2, v0), (0, x2), (0, x8), (0, 1)] [] kd m9 (zqI kd q)))))) : CtI (d + 1) M_Table_mostLow [(2, v0)] kd m q :=
  Ct.start k_Table_mostLow (Nat.le_of_ble_eq_true rfl) ⟨1, Or.inr (Or.inl ⟨rfl, rfl⟩)⟩ (T_Table_mostLow_0 h)
set_option maxRecDepth 20000 in
set_option maxHeartbeats 1000000 in
theorem T_Table_mostLow_16 {d : Nat} {kd : ZK} {m : ZM} {q : Int → ZM → Prop} {v0 v1 v2 v3 : Int} (h : ((v1 ≤ v3 → q v2 m) ∧ (¬ v1 ≤ v3 → (zobj kd v0 5 ∧ ∃ q1, CtV d M_Table_step [(2, v0)] kd m q1 ∧ ∀ m3, q1 m3 → (zobj kd v0 5 ∧ ∃ q4, CtI d M_Table_low [(2, v0)] kd m3 q4 ∧ ∀ x5 m6, q4 x5 m6 → (Ev (d + 1) M_Table_mostLow 0 0 16 [(2, v0), (0, v1), (0, zmax v2 x5), (0, iw (v3 + 1))] [] kd m6 (zqI kd q))))))) : Ev (d + 1) M_Table_mostLow 0 0 16 [(2, v0), (0, v1), (0, v2), (0, v3)] [] kd m (zqI kd q) := by
  refine EvX.blk (pc' := 18) [(.iload_n 3, 0, 0), (.iload_n 1, 0, 0)] (by decide +kernel) trivial ?_
  show Ev (d + 1) M_Table_mostLow 0 0 18 [(2, v0), (0, v1), (0, v2), (0, v3)] [(0, v1), (0, v3)] kd m (zqI kd q)
  refine EvX.icmp_ge (off := 22) (tgt := 40) (by decide +kernel) (by decide) (fun hc => ?_) (fun hc => ?_)
  · have h := h.1 hc
    refine EvX.blk (pc' := 41) [(.iload_n 2, 0, 0)] (by decide +kernel) trivial ?_
    show Ev (d + 1) M_Table_mostLow 0 0 41 [(2, v0), (0, v1), (0, v2), (0, v3)] [(0, v2)] kd m (zqI kd q)
    exact EvX.ret (r := (0, v2)) (by decide +kernel) rfl ⟨_, rfl, rfl, h⟩
  · have h := h.2 hc
    refine EvX.blk (pc' := 22) [(.aload_n 0, 0, 0)] (by decide +kernel) trivial ?_
    show Ev (d + 1) M_Table_mostLow 0 0 22 [(2, v0), (0, v1), (0, v2), (0, v3)] [(2, v0)] kd m (zqI kd q)
    obtain ⟨ov, h⟩ := h
    obtain ⟨q1, hq, h⟩ := h
    refine EvX.callV (c := 5) (mc := 0) (ms := 0) (as := []) (st := []) (by decide +kernel) l_Table_143 k_Table_step v_Table_step a_Table_step (by decide) (Nat.le_of_ble_eq_true rfl) rfl ov hq (fun r kd1 m3 hr => ?_)
    obtain ⟨rfl, hk, hr⟩ := hr
    subst kd1
    have h := h m3 hr
    show Ev (d + 1) M_Table_mostLow 0 0 25 [(2, v0), (0, v1), (0, v2), (0, v3)] [] kd m3 (zqI kd q)
    refine EvX.blk (pc' := 27) [(.iload_n 2, 0, 0), (.aload_n 0, 0, 0)] (by decide +kernel) trivial ?_
    show Ev (d + 1) M_Table_mostLow 0 0 27 [(2, v0), (0, v1), (0, v2), (0, v3)] [(2, v0), (0, v2)] kd m3 (zqI kd q)
    obtain ⟨ov, h⟩ := h
    obtain ⟨q4, hq, h⟩ := h
    refine EvX.callV (c := 5) (mc := 0) (ms := 0) (as := []) (st := [(0, v2)]) (by decide +kernel) l_Table_140 k_Table_low v_Table_low a_Table_low (by decide) (Nat.le_of_ble_eq_true rfl) rfl ov hq (fun r kd1 m6 hr => ?_)
    obtain ⟨x5, rfl, hk, hr⟩ := hr
    subst kd1
    have h := h x5 m6 hr
    show Ev (d + 1) M_Table_mostLow 0 0 30 [(2, v0), (0, v1), (0, v2), (0, v3)] [(0, x5), (0, v2)] kd m6 (zqI kd q)
    refine EvX.mmax' (by decide +kernel) y_Table_119 (Nat.le_of_ble_eq_true rfl) ?_
    show Ev (d + 1) M_Table_mostLow 0 0 33 [(2, v0), (0, v1), (0, v2), (0, v3)] [(0, zmax v2 x5)] kd m6 (zqI kd q)
    refine EvX.blk (pc' := 37) [(.istore_n 2, 0, 0), (.iinc 3 1, 0, 0)] (by decide +kernel) trivial ?_
    show Ev (d + 1) M_Table_mostLow 0 0 37 [(2, v0), (0, v1), (0, zmax v2 x5), (0, iw (v3 + 1))] [] kd m6 (zqI kd q)
    refine EvX.goto (off := (-21)) (tgt := 16) (by decide +kernel) (by decide) ?_
    exact h
set_option maxRecDepth 20000 in
set_option maxHeartbeats 1000000 in
theorem T_Table_firstRowOfLow_0 {d : Nat} {kd : ZK} {m : ZM} {q : Int → ZM → Prop} {v0 v1 : Int} (h : (zobj kd v0 5 ∧ ∃ q1, CtI d M_Table_rows [(2, v0)] kd m q1 ∧ ∀ x2 m3, q1 x2 m3 → (zobj kd v0 5 ∧ ∃ q4, CtV d M_Table_begin [(2, v0)] kd m3 q4 ∧ ∀ m6, q4 m6 → (Ev (d + 1) M_Table_firstRowOfLow 0 0 11 [(2, v0), (0, v1), (0, x2), (0, 1)] [] kd m6 (zqI kd q))))) : Ev (d + 1) M_Table_firstRowOfLow 0 0 0 [(2, v0), (0, v1), zJ, zJ] [] kd m (zqI kd q) := by
  refine EvX.blk (pc' := 1) [(.aload_n 0, 0, 0)] (by decide +kernel) trivial ?_
  show Ev (d + 1) M_Table_firstRowOfLow 0 0 1 [(2, v0), (0, v1), zJ, zJ] [(2, v0)] kd m (zqI kd q)
  obtain ⟨ov, h⟩ := h
  obtain ⟨q1, hq, h⟩ := h
  refine EvX.callV (c := 5) (mc := 0) (ms := 0) (as := []) (st := []) (by decide +kernel) l_Table_133 k_Table_rows v_Table_rows a_Table_rows (by decide) (Nat.le_of_ble_eq_true rfl) rfl ov hq (fun r kd1 m3 hr => ?_)
  obtain ⟨x2, rfl, hk, hr⟩ := hr
  subst kd1
  have h := h x2 m3 hr
  show Ev (d + 1) M_Table_firstRowOfLow 0 0 4 [(2, v0), (0, v1), zJ, zJ] [(0, x2)] kd m3 (zqI kd q)
  refine EvX.blk (pc' := 6) [(.istore_n 2, 0, 0), (.aload_n 0, 0, 0)] (by decide +kernel) trivial ?_
  show Ev (d + 1) M_Table_firstRowOfLow 0 0 6 [(2, v0), (0, v1), (0, x2), zJ] [(2, v0)] kd m3 (zqI kd q)
  obtain ⟨ov, h⟩ := h
  obtain ⟨q4, hq, h⟩ := h
  refine EvX.callV (c := 5) (mc := 0) (ms := 0) (as := []) (st := []) (by decide +kernel) l_Table_137 k_Table_begin v_Table_begin a_Table_begin (by decide) (Nat.le_of_ble_eq_true rfl) rfl ov hq (fun r kd1 m6 hr => ?_)
  obtain ⟨rfl, hk, hr⟩ := hr
  subst kd1
  have h := h m6 hr
  show Ev (d + 1) M_Table_firstRowOfLow 0 0 9 [(2, v0), (0, v1), (0, x2), zJ] [] kd m6 (zqI kd q)
  refine EvX.blk (pc' := 11) [(.iconst 1, 0, 0), (.istore_n 3, 0, 0)] (by decide +kernel) trivial ?_
  show Ev (d + 1) M_Table_firstRowOfLow 0 0 11 [(2, v0), (0, v1), (0, x2), (0, 1)] [] kd m6 (zqI kd q)
  exact h
theorem S_Table_firstRowOfLow {d : Nat} {kd : ZK} {m : ZM} {q : Int → ZM → Prop} {v0 v1 : Int} (h : (zobj kd v0 5 ∧ ∃ q1, CtI d M_Table_rows [(2, v0)] kd m q1 ∧ ∀ x2 m3, q1 x2 m3 → (zobj kd v0 5 ∧ ∃ q4, CtV d M_Table_begin [(2, v0)] kd m3 q4 ∧ ∀ m6, q4 m6 → (Ev (d + 1) M_Table_firstRowOfLow 0 0 11 [(2, v0), (0, v1), (0, x2), (0, 1)] [] kd m6 (zqI kd q))))) : CtI (d + 1) M_Table_firstRowOfLow [(2, v0), (0, v1)] kd m q :=
  Ct.start k_Table_firstRowOfLow (Nat.le_of_ble_eq_true rfl) ⟨1, Or.inr (Or.inl ⟨rfl, rfl⟩)⟩ (T_Table_firstRowOfLow_0 h)
set_option maxRecDepth 20000 in
set_option maxHeartbeats 1000000 in
theorem T_Table_firstRowOfLow_11 {d : Nat} {kd : ZK} {m : ZM} {q : Int → ZM → Prop} {v0 v1 v2 v3 : Int} (h : ((v2 ≤ v3 → (zobj kd v0 5 ∧ zobj kd v0 5 ∧ (∃ q1, CtI d M_Duo_numberOf [(2, m v0 9), (0, m v0 0)] kd m q1 ∧ ∀ x2 m3, q1 x2 m3 → q x2 m3))) ∧ (¬ v2 ≤ v3 → (zobj kd v0 5 ∧ ∃ q4, CtI d M_Table_low [(2, v0)] kd m q4 ∧ ∀ x5 m6, q4 x5 m6 → ((x5 = v1 → (zobj kd v0 5 ∧ zobj kd v0 5 ∧ (∃ q7, CtI d M_Duo_numberOf [(2, m6 v0 9), (0, m6 v0 0)] kd m6 q7 ∧ ∀ x8 m9, q7 x8 m9 → q x8 m9))) ∧ (¬ x5 = v1 → (zobj kd v0 5 ∧ ∃ q10, CtV d M_Table_step [(2, v0)] kd m6 q10 ∧ ∀ m12, q10 m12 → (Ev (d + 1) M_Table_firstRowOfLow 0 0 11 [(2, v0), (0, v1), (0, v2), (0, iw (v3 + 1))] [] kd m12 (zqI kd q))))))))) : Ev (d + 1) M_Table_firstRowOfLow 0 0 11 [(2, v0), (0, v1), (0, v2), (0, v3)] [] kd m (zqI kd q) := by
  refine EvX.blk (pc' := 13) [(.iload_n 3, 0, 0), (.iload_n 2, 0, 0)] (by decide +kernel) trivial ?_
  show Ev (d + 1) M_Table_firstRowOfLow 0 0 13 [(2, v0), (0, v1), (0, v2), (0, v3)] [(0, v2), (0, v3)] kd m (zqI kd q)
  refine EvX.icmp_ge (off := 21) (tgt := 34) (by decide +kernel) (by decide) (fun hc => ?_) (fun hc => ?_)
  · have h := h.1 hc
    obtain ⟨o1, o2, h⟩ := h
    refine EvX.blk (pc' := 42) [(.aload_n 0, 0, 0), (.getfield 41, 5, 9), (.aload_n 0, 0, 0), (.getfield 9, 5, 0)] (by decide +kernel) ⟨g_Table_41, g_Table_9, trivial⟩ ⟨o1, o2, ?_⟩
    show Ev (d + 1) M_Table_firstRowOfLow 0 0 42 [(2, v0), (0, v1), (0, v2), (0, v3)] [(0, m v0 0), (2, m v0 9)] kd m (zqI kd q)
    obtain ⟨q1, hq, h⟩ := h
    refine EvX.callS (mc := 0) (ms := 0) (as := [(2, m v0 9), (0, m v0 0)]) (st := []) (by decide +kernel) l_Table_146 k_Duo_numberOf s_Duo_numberOf a_Duo_numberOf (by decide) (Nat.le_of_ble_eq_true rfl) hq (fun r kd1 m3 hr => ?_)
    obtain ⟨x2, rfl, hk, hr⟩ := hr
    subst kd1
    have h := h x2 m3 hr
    show Ev (d + 1) M_Table_firstRowOfLow 0 0 45 [(2, v0), (0, v1), (0, v2), (0, v3)] [(0, x2)] kd m3 (zqI kd q)
    exact EvX.ret (r := (0, x2)) (by decide +kernel) rfl ⟨_, rfl, rfl, h⟩
  · have h := h.2 hc
    refine EvX.blk (pc' := 17) [(.aload_n 0, 0, 0)] (by decide +kernel) trivial ?_
    show Ev (d + 1) M_Table_firstRowOfLow 0 0 17 [(2, v0), (0, v1), (0, v2), (0, v3)] [(2, v0)] kd m (zqI kd q)
    obtain ⟨ov, h⟩ := h
    obtain ⟨q4, hq, h⟩ := h
    refine EvX.callV (c := 5) (mc := 0) (ms := 0) (as := []) (st := []) (by decide +kernel) l_Table_140 k_Table_low v_Table_low a_Table_low (by decide) (Nat.le_of_ble_eq_true rfl) rfl ov hq (fun r kd1 m6 hr => ?_)
    obtain ⟨x5, rfl, hk, hr⟩ := hr
    subst kd1
    have h := h x5 m6 hr
    show Ev (d + 1) M_Table_firstRowOfLow 0 0 20 [(2, v0), (0, v1), (0, v2), (0, v3)] [(0, x5)] kd m6 (zqI kd q)
    refine EvX.blk (pc' := 21) [(.iload_n 1, 0, 0)] (by decide +kernel) trivial ?_
    show Ev (d + 1) M_Table_firstRowOfLow 0 0 21 [(2, v0), (0, v1), (0, v2), (0, v3)] [(0, v1), (0, x5)] kd m6 (zqI kd q)
    refine EvX.icmp_eq (off := 13) (tgt := 34) (by decide +kernel) (by decide) (fun hc => ?_) (fun hc => ?_)
    · have h := h.1 hc
      obtain ⟨o1, o2, h⟩ := h
      refine EvX.blk (pc' := 42) [(.aload_n 0, 0, 0), (.getfield 41, 5, 9), (.aload_n 0, 0, 0), (.getfield 9, 5, 0)] (by decide +kernel) ⟨g_Table_41, g_Table_9, trivial⟩ ⟨o1, o2, ?_⟩
      show Ev (d + 1) M_Table_firstRowOfLow 0 0 42 [(2, v0), (0, v1), (0, v2), (0, v3)] [(0, m6 v0 0), (2, m6 v0 9)] kd m6 (zqI kd q)
      obtain ⟨q7, hq, h⟩ := h
      refine EvX.callS (mc := 0) (ms := 0) (as := [(2, m6 v0 9), (0, m6 v0 0)]) (st := []) (by decide +kernel) l_Table_146 k_Duo_numberOf s_Duo_numberOf a_Duo_numberOf (by decide) (Nat.le_of_ble_eq_true rfl) hq (fun r kd1 m9 hr => ?_)
      obtain ⟨x8, rfl, hk, hr⟩ := hr
      subst kd1
      have h := h x8 m9 hr
      show Ev (d + 1) M_Table_firstRowOfLow 0 0 45 [(2, v0), (0, v1), (0, v2), (0, v3)] [(0, x8)] kd m9 (zqI kd q)
      exact EvX.ret (r := (0, x8)) (by decide +kernel) rfl ⟨_, rfl, rfl, h⟩
    · have h := h.2 hc
      refine EvX.blk (pc' := 25) [(.aload_n 0, 0, 0)] (by decide +kernel) trivial ?_
      show Ev (d + 1) M_Table_firstRowOfLow 0 0 25 [(2, v0), (0, v1), (0, v2), (0, v3)] [(2, v0)] kd m6 (zqI kd q)
      obtain ⟨ov, h⟩ := h
      obtain ⟨q10, hq, h⟩ := h
      refine EvX.callV (c := 5) (mc := 0) (ms := 0) (as := []) (st := []) (by decide +kernel) l_Table_143 k_Table_step v_Table_step a_Table_step (by decide) (Nat.le_of_ble_eq_true rfl) rfl ov hq (fun r kd1 m12 hr => ?_)
      obtain ⟨rfl, hk, hr⟩ := hr
      subst kd1
      have h := h m12 hr
      show Ev (d + 1) M_Table_firstRowOfLow 0 0 28 [(2, v0), (0, v1), (0, v2), (0, v3)] [] kd m12 (zqI kd q)
      refine EvX.blk (pc' := 31) [(.iinc 3 1, 0, 0)] (by decide +kernel) trivial ?_
      show Ev (d + 1) M_Table_firstRowOfLow 0 0 31 [(2, v0), (0, v1), (0, v2), (0, iw (v3 + 1))] [] kd m12 (zqI kd q)
      refine EvX.goto (off := (-20)) (tgt := 11) (by decide +kernel) (by decide) ?_
      exact h
set_option maxRecDepth 20000 in
set_option maxHeartbeats 1000000 in
theorem T_Table_isTopReply_0 {d : Nat} {kd : ZK} {m : ZM} {q : Int → ZM → Prop} {v0 v1 v2 : Int} (h : (zobj kd v0 5 ∧ zobj kd v0 5 ∧ zobj kd v0 5 ∧ zobj kd v0 5 ∧ zIn kd (m v0 6) 0 (iw ((iw ((iw ((m v0 0) * (m v0 4))) + (iw (v1 * (m v0 3))))) + v2)) ∧ (zobj kd v0 5 ∧ ∃ q1, CtI d M_Table_highAt [(2, v0), (0, v1)] kd m q1 ∧ ∀ x2 m3, q1 x2 m3 → (((m (m v0 6) (iw ((iw ((iw ((m v0 0) * (m v0 4))) + (iw (v1 * (m v0 3))))) + v2))) ≠ x2 → q 0 m3) ∧ (¬ (m (m v0 6) (iw ((iw ((iw ((m v0 0) * (m v0 4))) + (iw (v1 * (m v0 3))))) + v2))) ≠ x2 → q 1 m3))))) : Ev (d + 1) M_Table_isTopReply 0 0 0 [(2, v0), (0, v1), (0, v2)] [] kd m (zqI kd q) := by
  obtain ⟨o1, o2, o3, o4, o5, h⟩ := h
  refine EvX.blk (pc' := 25) [(.aload_n 0, 0, 0), (.getfield 31, 5, 6), (.aload_n 0, 0, 0), (.getfield 9, 5, 0), (.aload_n 0, 0, 0), (.getfield 24, 5, 4), (.imul, 0, 0), (.iload_n 1, 0, 0), (.aload_n 0, 0, 0), (.getfield 21, 5, 3), (.imul, 0, 0), (.iadd, 0, 0), (.iload_n 2, 0, 0), (.iadd, 0, 0), (.iaload, 0, 0), (.aload_n 0, 0, 0), (.iload_n 1, 0, 0)] (by decide +kernel) ⟨g_Table_31, g_Table_9, g_Table_24, g_Table_21, trivial⟩ ⟨o1, o2, o3, o4, o5, ?_⟩
  show Ev (d + 1) M_Table_isTopReply 0 0 25 [(2, v0), (0, v1), (0, v2)] [(0, v1), (2, v0), (0, m (m v0 6) (iw ((iw ((iw ((m v0 0) * (m v0 4))) + (iw (v1 * (m v0 3))))) + v2)))] kd m (zqI kd q)
  obtain ⟨ov, h⟩ := h
  obtain ⟨q1, hq, h⟩ := h
  refine EvX.callV (c := 5) (mc := 0) (ms := 0) (as := [(0, v1)]) (st := [(0, m (m v0 6) (iw ((iw ((iw ((m v0 0) * (m v0 4))) + (iw (v1 * (m v0 3))))) + v2)))]) (by decide +kernel) l_Table_127 k_Table_highAt v_Table_highAt a_Table_highAt (by decide) (Nat.le_of_ble_eq_true rfl) rfl ov hq (fun r kd1 m3 hr => ?_)
  obtain ⟨x2, rfl, hk, hr⟩ := hr
  subst kd1
  have h := h x2 m3 hr
  show Ev (d + 1) M_Table_isTopReply 0 0 28 [(2, v0), (0, v1), (0, v2)] [(0, x2), (0, m (m v0 6) (iw ((iw ((iw ((m v0 0) * (m v0 4))) + (iw (v1 * (m v0 3))))) + v2)))] kd m3 (zqI kd q)
  refine EvX.icmp_ne (off := 7) (tgt := 35) (by decide +kernel) (by decide) (fun hc => ?_) (fun hc => ?_)
  · have h := h.1 hc
    refine EvX.blk (pc' := 36) [(.iconst 0, 0, 0)] (by decide +kernel) trivial ?_
    show Ev (d + 1) M_Table_isTopReply 0 0 36 [(2, v0), (0, v1), (0, v2)] [(0, 0)] kd m3 (zqI kd q)
    exact EvX.ret (r := (0, 0)) (by decide +kernel) ⟨rfl, by decide, by decide⟩ ⟨_, rfl, rfl, h⟩
  · have h := h.2 hc
    refine EvX.blk (pc' := 32) [(.iconst 1, 0, 0)] (by decide +kernel) trivial ?_
    show Ev (d + 1) M_Table_isTopReply 0 0 32 [(2, v0), (0, v1), (0, v2)] [(0, 1)] kd m3 (zqI kd q)
    refine EvX.goto (off := 4) (tgt := 36) (by decide +kernel) (by decide) ?_
    exact EvX.ret (r := (0, 1)) (by decide +kernel) ⟨rfl, by decide, by decide⟩ ⟨_, rfl, rfl, h⟩
theorem S_Table_isTopReply {d : Nat} {kd : ZK} {m : ZM} {q : Int → ZM → Prop} {v0 v1 v2 : Int} (h : (zobj kd v0 5 ∧ zobj kd v0 5 ∧ zobj kd v0 5 ∧ zobj kd v0 5 ∧ zIn kd (m v0 6) 0 (iw ((iw ((iw ((m v0 0) * (m v0 4))) + (iw (v1 * (m v0 3))))) + v2)) ∧ (zobj kd v0 5 ∧ ∃ q1, CtI d M_Table_highAt [(2, v0), (0, v1)] kd m q1 ∧ ∀ x2 m3, q1 x2 m3 → (((m (m v0 6) (iw ((iw ((iw ((m v0 0) * (m v0 4))) + (iw (v1 * (m v0 3))))) + v2))) ≠ x2 → q 0 m3) ∧ (¬ (m (m v0 6) (iw ((iw ((iw ((m v0 0) * (m v0 4))) + (iw (v1 * (m v0 3))))) + v2))) ≠ x2 → q 1 m3))))) : CtI (d + 1) M_Table_isTopReply [(2, v0), (0, v1), (0, v2)] kd m q :=
  Ct.start k_Table_isTopReply (Nat.le_of_ble_eq_true rfl) ⟨2, Or.inr (Or.inr (Or.inl ⟨rfl, rfl⟩))⟩ (T_Table_isTopReply_0 h)
set_option maxRecDepth 20000 in
set_option maxHeartbeats 1000000 in
theorem T_Table_topReplies_0 {d : Nat} {kd : ZK} {m : ZM} {q : Int → ZM → Prop} {v0 v1 : Int} (h : (zobj kd v0 5 ∧ ∃ q1, CtI d M_Table_highAt [(2, v0), (0, v1)] kd m q1 ∧ ∀ x2 m3, q1 x2 m3 → (zobj kd v0 5 ∧ zobj kd v0 5 ∧ zobj kd v0 5 ∧ (Ev (d + 1) M_Table_topReplies 0 0 29 [(2, v0), zJ, (0, x2), (0, iw ((iw ((m3 v0 0) * (m3 v0 4))) + (iw (v1 * (m3 v0 3))))), (0, 0), (0, iw ((iw ((m3 v0 0) * (m3 v0 4))) + (iw (v1 * (m3 v0 3)))))] [] kd m3 (zqI kd q))))) : Ev (d + 1) M_Table_topReplies 0 0 0 [(2, v0), (0, v1), zJ, zJ, zJ, zJ] [] kd m (zqI kd q) := by
  refine EvX.blk (pc' := 2) [(.aload_n 0, 0, 0), (.iload_n 1, 0, 0)] (by decide +kernel) trivial ?_
  show Ev (d + 1) M_Table_topReplies 0 0 2 [(2, v0), (0, v1), zJ, zJ, zJ, zJ] [(0, v1), (2, v0)] kd m (zqI kd q)
  obtain ⟨ov, h⟩ := h
  obtain ⟨q1, hq, h⟩ := h
  refine EvX.callV (c := 5) (mc := 0) (ms := 0) (as := [(0, v1)]) (st := []) (by decide +kernel) l_Table_127 k_Table_highAt v_Table_highAt a_Table_highAt (by decide) (Nat.le_of_ble_eq_true rfl) rfl ov hq (fun r kd1 m3 hr => ?_)
  obtain ⟨x2, rfl, hk, hr⟩ := hr
  subst kd1
  have h := h x2 m3 hr
  show Ev (d + 1) M_Table_topReplies 0 0 5 [(2, v0), (0, v1), zJ, zJ, zJ, zJ] [(0, x2)] kd m3 (zqI kd q)
  obtain ⟨o1, o2, o3, h⟩ := h
  refine EvX.blk (pc' := 29) [(.istore_n 2, 0, 0), (.aload_n 0, 0, 0), (.getfield 9, 5, 0), (.aload_n 0, 0, 0), (.getfield 24, 5, 4), (.imul, 0, 0), (.iload_n 1, 0, 0), (.aload_n 0, 0, 0), (.getfield 21, 5, 3), (.imul, 0, 0), (.iadd, 0, 0), (.istore_n 3, 0, 0), (.iconst 0, 0, 0), (.istore 4, 0, 0), (.iload_n 3, 0, 0), (.istore 5, 0, 0)] (by decide +kernel) ⟨g_Table_9, g_Table_24, g_Table_21, trivial⟩ ⟨o1, o2, o3, ?_⟩
  show Ev (d + 1) M_Table_topReplies 0 0 29 [(2, v0), (0, v1), (0, x2), (0, iw ((iw ((m3 v0 0) * (m3 v0 4))) + (iw (v1 * (m3 v0 3))))), (0, 0), (0, iw ((iw ((m3 v0 0) * (m3 v0 4))) + (iw (v1 * (m3 v0 3)))))] [] kd m3 (zqI kd q)
  exact EvX.weak (ls2 := [(2, v0), zJ, (0, x2), (0, iw ((iw ((m3 v0 0) * (m3 v0 4))) + (iw (v1 * (m3 v0 3))))), (0, 0), (0, iw ((iw ((m3 v0 0) * (m3 v0 4))) + (iw (v1 * (m3 v0 3)))))]) (zwk_of ⟨Or.inr rfl, Or.inl rfl, Or.inr rfl, Or.inr rfl, Or.inr rfl, Or.inr rfl, trivial⟩) h
theorem S_Table_topReplies {d : Nat} {kd : ZK} {m : ZM} {q : Int → ZM → Prop} {v0 v1 : Int} (h : (zobj kd v0 5 ∧ ∃ q1, CtI d M_Table_highAt [(2, v0), (0, v1)] kd m q1 ∧ ∀ x2 m3, q1 x2 m3 → (zobj kd v0 5 ∧ zobj kd v0 5 ∧ zobj kd v0 5 ∧ (Ev (d + 1) M_Table_topReplies 0 0 29 [(2, v0), zJ, (0, x2), (0, iw ((iw ((m3 v0 0) * (m3 v0 4))) + (iw (v1 * (m3 v0 3))))), (0, 0), (0, iw ((iw ((m3 v0 0) * (m3 v0 4))) + (iw (v1 * (m3 v0 3)))))] [] kd m3 (zqI kd q))))) : CtI (d + 1) M_Table_topReplies [(2, v0), (0, v1)] kd m q :=
  Ct.start k_Table_topReplies (Nat.le_of_ble_eq_true rfl) ⟨1, Or.inr (Or.inl ⟨rfl, rfl⟩)⟩ (T_Table_topReplies_0 h)
set_option maxRecDepth 20000 in
set_option maxHeartbeats 1000000 in
theorem T_Table_topReplies_29 {d : Nat} {kd : ZK} {m : ZM} {q : Int → ZM → Prop} {v0 v2 v3 v4 v5 : Int} (h : (zobj kd v0 5 ∧ (((iw (v3 + (m v0 3))) ≤ v5 → q v4 m) ∧ (¬ (iw (v3 + (m v0 3))) ≤ v5 → (zobj kd v0 5 ∧ zIn kd (m v0 6) 0 v5 ∧ (((m (m v0 6) v5) ≠ v2 → (Ev (d + 1) M_Table_topReplies 0 0 29 [(2, v0), zJ, (0, v2), (0, v3), (0, v4), (0, iw (v5 + 1))] [] kd m (zqI kd q))) ∧ (¬ (m (m v0 6) v5) ≠ v2 → (Ev (d + 1) M_Table_topReplies 0 0 29 [(2, v0), zJ, (0, v2), (0, v3), (0, iw (v4 + 1)), (0, iw (v5 + 1))] [] kd m (zqI kd q))))))))) : Ev (d + 1) M_Table_topReplies 0 0 29 [(2, v0), zJ, (0, v2), (0, v3), (0, v4), (0, v5)] [] kd m (zqI kd q) := by
  obtain ⟨o1, h⟩ := h
  refine EvX.blk (pc' := 37) [(.iload 5, 0, 0), (.iload_n 3, 0, 0), (.aload_n 0, 0, 0), (.getfield 21, 5, 3), (.iadd, 0, 0)] (by decide +kernel) ⟨g_Table_21, trivial⟩ ⟨o1, ?_⟩
  show Ev (d + 1) M_Table_topReplies 0 0 37 [(2, v0), zJ, (0, v2), (0, v3), (0, v4), (0, v5)] [(0, iw (v3 + (m v0 3))), (0, v5)] kd m (zqI kd q)
  refine EvX.icmp_ge (off := 23) (tgt := 60) (by decide +kernel) (by decide) (fun hc => ?_) (fun hc => ?_)
  · have h := h.1 hc
    refine EvX.blk (pc' := 62) [(.iload 4, 0, 0)] (by decide +kernel) trivial ?_
    show Ev (d + 1) M_Table_topReplies 0 0 62 [(2, v0), zJ, (0, v2), (0, v3), (0, v4), (0, v5)] [(0, v4)] kd m (zqI kd q)
    exact EvX.ret (r := (0, v4)) (by decide +kernel) rfl ⟨_, rfl, rfl, h⟩
  · have h := h.2 hc
    obtain ⟨o1, o2, h⟩ := h
    refine EvX.blk (pc' := 48) [(.aload_n 0, 0, 0), (.getfield 31, 5, 6), (.iload 5, 0, 0), (.iaload, 0, 0), (.iload_n 2, 0, 0)] (by decide +kernel) ⟨g_Table_31, trivial⟩ ⟨o1, o2, ?_⟩
    show Ev (d + 1) M_Table_topReplies 0 0 48 [(2, v0), zJ, (0, v2), (0, v3), (0, v4), (0, v5)] [(0, v2), (0, m (m v0 6) v5)] kd m (zqI kd q)
    refine EvX.icmp_ne (off := 6) (tgt := 54) (by decide +kernel) (by decide) (fun hc => ?_) (fun hc => ?_)
    · have h := h.1 hc
      refine EvX.blk (pc' := 57) [(.iinc 5 1, 0, 0)] (by decide +kernel) trivial ?_
      show Ev (d + 1) M_Table_topReplies 0 0 57 [(2, v0), zJ, (0, v2), (0, v3), (0, v4), (0, iw (v5 + 1))] [] kd m (zqI kd q)
      refine EvX.goto (off := (-28)) (tgt := 29) (by decide +kernel) (by decide) ?_
      exact h
    · have h := h.2 hc
      refine EvX.blk (pc' := 57) [(.iinc 4 1, 0, 0), (.iinc 5 1, 0, 0)] (by decide +kernel) trivial ?_
      show Ev (d + 1) M_Table_topReplies 0 0 57 [(2, v0), zJ, (0, v2), (0, v3), (0, iw (v4 + 1)), (0, iw (v5 + 1))] [] kd m (zqI kd q)
      refine EvX.goto (off := (-28)) (tgt := 29) (by decide +kernel) (by decide) ?_
      exact h
set_option maxRecDepth 20000 in
set_option maxHeartbeats 1000000 in
theorem T_Table_topRowsFrom_0 {d : Nat} {kd : ZK} {m : ZM} {q : Int → ZM → Prop} {v0 v1 : Int} (h : (Ev (d + 1) M_Table_topRowsFrom 0 0 4 [(2, v0), zJ, (0, 1), (0, v1)] [] kd m (zqI kd q))) : Ev (d + 1) M_Table_topRowsFrom 0 0 0 [(2, v0), (0, v1), zJ, zJ] [] kd m (zqI kd q) := by
  refine EvX.blk (pc' := 4) [(.iconst 1, 0, 0), (.istore_n 2, 0, 0), (.iload_n 1, 0, 0), (.istore_n 3, 0, 0)] (by decide +kernel) trivial ?_
  show Ev (d + 1) M_Table_topRowsFrom 0 0 4 [(2, v0), (0, v1), (0, 1), (0, v1)] [] kd m (zqI kd q)
  exact EvX.weak (ls2 := [(2, v0), zJ, (0, 1), (0, v1)]) (zwk_of ⟨Or.inr rfl, Or.inl rfl, Or.inr rfl, Or.inr rfl, trivial⟩) h
theorem S_Table_topRowsFrom {d : Nat} {kd : ZK} {m : ZM} {q : Int → ZM → Prop} {v0 v1 : Int} (h : (Ev (d + 1) M_Table_topRowsFrom 0 0 4 [(2, v0), zJ, (0, 1), (0, v1)] [] kd m (zqI kd q))) : CtI (d + 1) M_Table_topRowsFrom [(2, v0), (0, v1)] kd m q :=
  Ct.start k_Table_topRowsFrom (Nat.le_of_ble_eq_true rfl) ⟨1, Or.inr (Or.inl ⟨rfl, rfl⟩)⟩ (T_Table_topRowsFrom_0 h)
set_option maxRecDepth 20000 in
set_option maxHeartbeats 1000000 in
theorem T_Table_topRowsFrom_4 {d : Nat} {kd : ZK} {m : ZM} {q : Int → ZM → Prop} {v0 v2 v3 : Int} (h : (zobj kd v0 5 ∧ (((m v0 2) ≤ v3 → q v2 m) ∧ (¬ (m v0 2) ≤ v3 → (zobj kd v0 5 ∧ ∃ q1, CtI d M_Table_topReplies [(2, v0), (0, v3)] kd m q1 ∧ ∀ x2 m3, q1 x2 m3 → (Ev (d + 1) M_Table_topRowsFrom 0 0 4 [(2, v0), zJ, (0, iw (v2 * x2)), (0, iw (v3 + 1))] [] kd m3 (zqI kd q))))))) : Ev (d + 1) M_Table_topRowsFrom 0 0 4 [(2, v0), zJ, (0, v2), (0, v3)] [] kd m (zqI kd q) := by
  obtain ⟨o1, h⟩ := h
  refine EvX.blk (pc' := 9) [(.iload_n 3, 0, 0), (.aload_n 0, 0, 0), (.getfield 18, 5, 2)] (by decide +kernel) ⟨g_Table_18, trivial⟩ ⟨o1, ?_⟩
  show Ev (d + 1) M_Table_topRowsFrom 0 0 9 [(2, v0), zJ, (0, v2), (0, v3)] [(0, m v0 2), (0, v3)] kd m (zqI kd q)
  refine EvX.icmp_ge (off := 17) (tgt := 26) (by decide +kernel) (by decide) (fun hc => ?_) (fun hc => ?_)
  · have h := h.1 hc
    refine EvX.blk (pc' := 27) [(.iload_n 2, 0, 0)] (by decide +kernel) trivial ?_
    show Ev (d + 1) M_Table_topRowsFrom 0 0 27 [(2, v0), zJ, (0, v2), (0, v3)] [(0, v2)] kd m (zqI kd q)
    exact EvX.ret (r := (0, v2)) (by decide +kernel) rfl ⟨_, rfl, rfl, h⟩
  · have h := h.2 hc
    refine EvX.blk (pc' := 15) [(.iload_n 2, 0, 0), (.aload_n 0, 0, 0), (.iload_n 3, 0, 0)] (by decide +kernel) trivial ?_
    show Ev (d + 1) M_Table_topRowsFrom 0 0 15 [(2, v0), zJ, (0, v2), (0, v3)] [(0, v3), (2, v0), (0, v2)] kd m (zqI kd q)
    obtain ⟨ov, h⟩ := h
    obtain ⟨q1, hq, h⟩ := h
    refine EvX.callV (c := 5) (mc := 0) (ms := 0) (as := [(0, v3)]) (st := [(0, v2)]) (by decide +kernel) l_Table_152 k_Table_topReplies v_Table_topReplies a_Table_topReplies (by decide) (Nat.le_of_ble_eq_true rfl) rfl ov hq (fun r kd1 m3 hr => ?_)
    obtain ⟨x2, rfl, hk, hr⟩ := hr
    subst kd1
    have h := h x2 m3 hr
    show Ev (d + 1) M_Table_topRowsFrom 0 0 18 [(2, v0), zJ, (0, v2), (0, v3)] [(0, x2), (0, v2)] kd m3 (zqI kd q)
    refine EvX.blk (pc' := 23) [(.imul, 0, 0), (.istore_n 2, 0, 0), (.iinc 3 1, 0, 0)] (by decide +kernel) trivial ?_
    show Ev (d + 1) M_Table_topRowsFrom 0 0 23 [(2, v0), zJ, (0, iw (v2 * x2)), (0, iw (v3 + 1))] [] kd m3 (zqI kd q)
    refine EvX.goto (off := (-19)) (tgt := 4) (by decide +kernel) (by decide) ?_
    exact h
set_option maxRecDepth 20000 in
set_option maxHeartbeats 1000000 in
theorem T_Table_countTops_0 {d : Nat} {kd : ZK} {m : ZM} {q : Int → ZM → Prop} {v0 v1 : Int} (h : (zobj kd v0 5 ∧ ∃ q1, CtI d M_Table_rows [(2, v0)] kd m q1 ∧ ∀ x2 m3, q1 x2 m3 → (zobj kd v0 5 ∧ ∃ q4, CtV d M_Table_begin [(2, v0)] kd m3 q4 ∧ ∀ m6, q4 m6 → (Ev (d + 1) M_Table_countTops 0 0 14 [(2, v0), (0, v1), (0, x2), (1, 0), zJ, (0, 0)] [] kd m6 (zqL kd q))))) : Ev (d + 1) M_Table_countTops 0 0 0 [(2, v0), (0, v1), zJ, zJ, zJ, zJ] [] kd m (zqL kd q) := by
  refine EvX.blk (pc' := 1) [(.aload_n 0, 0, 0)] (by decide +kernel) trivial ?_
  show Ev (d + 1) M_Table_countTops 0 0 1 [(2, v0), (0, v1), zJ, zJ, zJ, zJ] [(2, v0)] kd m (zqL kd q)
  obtain ⟨ov, h⟩ := h
  obtain ⟨q1, hq, h⟩ := h
  refine EvX.callV (c := 5) (mc := 0) (ms := 0) (as := []) (st := []) (by decide +kernel) l_Table_133 k_Table_rows v_Table_rows a_Table_rows (by decide) (Nat.le_of_ble_eq_true rfl) rfl ov hq (fun r kd1 m3 hr => ?_)
  obtain ⟨x2, rfl, hk, hr⟩ := hr
  subst kd1
  have h := h x2 m3 hr
  show Ev (d + 1) M_Table_countTops 0 0 4 [(2, v0), (0, v1), zJ, zJ, zJ, zJ] [(0, x2)] kd m3 (zqL kd q)
  refine EvX.blk (pc' := 8) [(.istore_n 2, 0, 0), (.lconst 0, 0, 0), (.lstore_n 3, 0, 0), (.aload_n 0, 0, 0)] (by decide +kernel) trivial ?_
  show Ev (d + 1) M_Table_countTops 0 0 8 [(2, v0), (0, v1), (0, x2), (1, 0), zJ, zJ] [(2, v0)] kd m3 (zqL kd q)
  obtain ⟨ov, h⟩ := h
  obtain ⟨q4, hq, h⟩ := h
  refine EvX.callV (c := 5) (mc := 0) (ms := 0) (as := []) (st := []) (by decide +kernel) l_Table_137 k_Table_begin v_Table_begin a_Table_begin (by decide) (Nat.le_of_ble_eq_true rfl) rfl ov hq (fun r kd1 m6 hr => ?_)
  obtain ⟨rfl, hk, hr⟩ := hr
  subst kd1
  have h := h m6 hr
  show Ev (d + 1) M_Table_countTops 0 0 11 [(2, v0), (0, v1), (0, x2), (1, 0), zJ, zJ] [] kd m6 (zqL kd q)
  refine EvX.blk (pc' := 14) [(.iconst 0, 0, 0), (.istore 5, 0, 0)] (by decide +kernel) trivial ?_
  show Ev (d + 1) M_Table_countTops 0 0 14 [(2, v0), (0, v1), (0, x2), (1, 0), zJ, (0, 0)] [] kd m6 (zqL kd q)
  exact h
theorem S_Table_countTops {d : Nat} {kd : ZK} {m : ZM} {q : Int → ZM → Prop} {v0 v1 : Int} (h : (zobj kd v0 5 ∧ ∃ q1, CtI d M_Table_rows [(2, v0)] kd m q1 ∧ ∀ x2 m3, q1 x2 m3 → (zobj kd v0 5 ∧ ∃ q4, CtV d M_Table_begin [(2, v0)] kd m3 q4 ∧ ∀ m6, q4 m6 → (Ev (d + 1) M_Table_countTops 0 0 14 [(2, v0), (0, v1), (0, x2), (1, 0), zJ, (0, 0)] [] kd m6 (zqL kd q))))) : CtL (d + 1) M_Table_countTops [(2, v0), (0, v1)] kd m q :=
  Ct.start k_Table_countTops (Nat.le_of_ble_eq_true rfl) ⟨3, Or.inr (Or.inr (Or.inr (Or.inl ⟨rfl, rfl⟩)))⟩ (T_Table_countTops_0 h)
set_option maxRecDepth 20000 in
set_option maxHeartbeats 1000000 in
theorem T_Table_countTops_14 {d : Nat} {kd : ZK} {m : ZM} {q : Int → ZM → Prop} {v0 v1 v2 v3 v5 : Int} (h : ((v2 ≤ v5 → q v3 m) ∧ (¬ v2 ≤ v5 → (zobj kd v0 5 ∧ ∃ q1, CtI d M_Table_high [(2, v0)] kd m q1 ∧ ∀ x2 m3, q1 x2 m3 → ((x2 ≠ v1 → (zobj kd v0 5 ∧ ∃ q4, CtV d M_Table_step [(2, v0)] kd m3 q4 ∧ ∀ m6, q4 m6 → (Ev (d + 1) M_Table_countTops 0 0 14 [(2, v0), (0, v1), (0, v2), (1, v3), zJ, (0, iw (v5 + 1))] [] kd m6 (zqL kd q)))) ∧ (¬ x2 ≠ v1 → (zobj kd v0 5 ∧ ∃ q7, CtI d M_Table_topRowsFrom [(2, v0), (0, 0)] kd m3 q7 ∧ ∀ x8 m9, q7 x8 m9 → (zobj kd v0 5 ∧ ∃ q10, CtV d M_Table_step [(2, v0)] kd m9 q10 ∧ ∀ m12, q10 m12 → (Ev (d + 1) M_Table_countTops 0 0 14 [(2, v0), (0, v1), (0, v2), (1, lw64 (v3 + x8)), zJ, (0, iw (v5 + 1))] [] kd m12 (zqL kd q)))))))))) : Ev (d + 1) M_Table_countTops 0 0 14 [(2, v0), (0, v1), (0, v2), (1, v3), zJ, (0, v5)] [] kd m (zqL kd q) := by
  refine EvX.blk (pc' := 17) [(.iload 5, 0, 0), (.iload_n 2, 0, 0)] (by decide +kernel) trivial ?_
  show Ev (d + 1) M_Table_countTops 0 0 17 [(2, v0), (0, v1), (0, v2), (1, v3), zJ, (0, v5)] [(0, v2), (0, v5)] kd m (zqL kd q)
  refine EvX.icmp_ge (off := 30) (tgt := 47) (by decide +kernel) (by decide) (fun hc => ?_) (fun hc => ?_)
  · have h := h.1 hc
    refine EvX.blk (pc' := 48) [(.lload_n 3, 0, 0)] (by decide +kernel) trivial ?_
    show Ev (d + 1) M_Table_countTops 0 0 48 [(2, v0), (0, v1), (0, v2), (1, v3), zJ, (0, v5)] [(1, v3)] kd m (zqL kd q)
    exact EvX.ret (r := (1, v3)) (by decide +kernel) rfl ⟨_, rfl, rfl, h⟩
  · have h := h.2 hc
    refine EvX.blk (pc' := 21) [(.aload_n 0, 0, 0)] (by decide +kernel) trivial ?_
    show Ev (d + 1) M_Table_countTops 0 0 21 [(2, v0), (0, v1), (0, v2), (1, v3), zJ, (0, v5)] [(2, v0)] kd m (zqL kd q)
    obtain ⟨ov, h⟩ := h
    obtain ⟨q1, hq, h⟩ := h
    refine EvX.callV (c := 5) (mc := 0) (ms := 0) (as := []) (st := []) (by decide +kernel) l_Table_155 k_Table_high v_Table_high a_Table_high (by decide) (Nat.le_of_ble_eq_true rfl) rfl ov hq (fun r kd1 m3 hr => ?_)
    obtain ⟨x2, rfl, hk, hr⟩ := hr
    subst kd1
    have h := h x2 m3 hr
    show Ev (d + 1) M_Table_countTops 0 0 24 [(2, v0), (0, v1), (0, v2), (1, v3), zJ, (0, v5)] [(0, x2)] kd m3 (zqL kd q)
    refine EvX.blk (pc' := 25) [(.iload_n 1, 0, 0)] (by decide +kernel) trivial ?_
    show Ev (d + 1) M_Table_countTops 0 0 25 [(2, v0), (0, v1), (0, v2), (1, v3), zJ, (0, v5)] [(0, v1), (0, x2)] kd m3 (zqL kd q)
    refine EvX.icmp_ne (off := 12) (tgt := 37) (by decide +kernel) (by decide) (fun hc => ?_) (fun hc => ?_)
    · have h := h.1 hc
      refine EvX.blk (pc' := 38) [(.aload_n 0, 0, 0)] (by decide +kernel) trivial ?_
      show Ev (d + 1) M_Table_countTops 0 0 38 [(2, v0), (0, v1), (0, v2), (1, v3), zJ, (0, v5)] [(2, v0)] kd m3 (zqL kd q)
      obtain ⟨ov, h⟩ := h
      obtain ⟨q4, hq, h⟩ := h
      refine EvX.callV (c := 5) (mc := 0) (ms := 0) (as := []) (st := []) (by decide +kernel) l_Table_143 k_Table_step v_Table_step a_Table_step (by decide) (Nat.le_of_ble_eq_true rfl) rfl ov hq (fun r kd1 m6 hr => ?_)
      obtain ⟨rfl, hk, hr⟩ := hr
      subst kd1
      have h := h m6 hr
      show Ev (d + 1) M_Table_countTops 0 0 41 [(2, v0), (0, v1), (0, v2), (1, v3), zJ, (0, v5)] [] kd m6 (zqL kd q)
      refine EvX.blk (pc' := 44) [(.iinc 5 1, 0, 0)] (by decide +kernel) trivial ?_
      show Ev (d + 1) M_Table_countTops 0 0 44 [(2, v0), (0, v1), (0, v2), (1, v3), zJ, (0, iw (v5 + 1))] [] kd m6 (zqL kd q)
      refine EvX.goto (off := (-30)) (tgt := 14) (by decide +kernel) (by decide) ?_
      exact h
    · have h := h.2 hc
      refine EvX.blk (pc' := 31) [(.lload_n 3, 0, 0), (.aload_n 0, 0, 0), (.iconst 0, 0, 0)] (by decide +kernel) trivial ?_
      show Ev (d + 1) M_Table_countTops 0 0 31 [(2, v0), (0, v1), (0, v2), (1, v3), zJ, (0, v5)] [(0, 0), (2, v0), (1, v3)] kd m3 (zqL kd q)
      obtain ⟨ov, h⟩ := h
      obtain ⟨q7, hq, h⟩ := h
      refine EvX.callV (c := 5) (mc := 0) (ms := 0) (as := [(0, 0)]) (st := [(1, v3)]) (by decide +kernel) l_Table_158 k_Table_topRowsFrom v_Table_topRowsFrom a_Table_topRowsFrom (by decide) (Nat.le_of_ble_eq_true rfl) rfl ov hq (fun r kd1 m9 hr => ?_)
      obtain ⟨x8, rfl, hk, hr⟩ := hr
      subst kd1
      have h := h x8 m9 hr
      show Ev (d + 1) M_Table_countTops 0 0 34 [(2, v0), (0, v1), (0, v2), (1, v3), zJ, (0, v5)] [(0, x8), (1, v3)] kd m9 (zqL kd q)
      refine EvX.blk (pc' := 38) [(.i2l, 0, 0), (.ladd, 0, 0), (.lstore_n 3, 0, 0), (.aload_n 0, 0, 0)] (by decide +kernel) trivial ?_
      show Ev (d + 1) M_Table_countTops 0 0 38 [(2, v0), (0, v1), (0, v2), (1, lw64 (v3 + x8)), zJ, (0, v5)] [(2, v0)] kd m9 (zqL kd q)
      obtain ⟨ov, h⟩ := h
      obtain ⟨q10, hq, h⟩ := h
      refine EvX.callV (c := 5) (mc := 0) (ms := 0) (as := []) (st := []) (by decide +kernel) l_Table_143 k_Table_step v_Table_step a_Table_step (by decide) (Nat.le_of_ble_eq_true rfl) rfl ov hq (fun r kd1 m12 hr => ?_)
      obtain ⟨rfl, hk, hr⟩ := hr
      subst kd1
      have h := h m12 hr
      show Ev (d + 1) M_Table_countTops 0 0 41 [(2, v0), (0, v1), (0, v2), (1, lw64 (v3 + x8)), zJ, (0, v5)] [] kd m12 (zqL kd q)
      refine EvX.blk (pc' := 44) [(.iinc 5 1, 0, 0)] (by decide +kernel) trivial ?_
      show Ev (d + 1) M_Table_countTops 0 0 44 [(2, v0), (0, v1), (0, v2), (1, lw64 (v3 + x8)), zJ, (0, iw (v5 + 1))] [] kd m12 (zqL kd q)
      refine EvX.goto (off := (-30)) (tgt := 14) (by decide +kernel) (by decide) ?_
      exact h
set_option maxRecDepth 20000 in
set_option maxHeartbeats 1000000 in
theorem T_Table_countTopsLosing_0 {d : Nat} {kd : ZK} {m : ZM} {q : Int → ZM → Prop} {v0 v1 v2 v3 v4 : Int} (h : (zobj kd v0 5 ∧ ∃ q1, CtI d M_Table_rows [(2, v0)] kd m q1 ∧ ∀ x2 m3, q1 x2 m3 → (zobj kd v0 5 ∧ ∃ q4, CtV d M_Table_begin [(2, v0)] kd m3 q4 ∧ ∀ m6, q4 m6 → (Ev (d + 1) M_Table_countTopsLosing 0 0 16 [(2, v0), (2, v1), (0, v2), (0, v3), (0, v4), (0, x2), (1, 0), zJ, (0, 0)] [] kd m6 (zqL kd q))))) : Ev (d + 1) M_Table_countTopsLosing 0 0 0 [(2, v0), (2, v1), (0, v2), (0, v3), (0, v4), zJ, zJ, zJ, zJ] [] kd m (zqL kd q) := by
  refine EvX.blk (pc' := 1) [(.aload_n 0, 0, 0)] (by decide +kernel) trivial ?_
  show Ev (d + 1) M_Table_countTopsLosing 0 0 1 [(2, v0), (2, v1), (0, v2), (0, v3), (0, v4), zJ, zJ, zJ, zJ] [(2, v0)] kd m (zqL kd q)
  obtain ⟨ov, h⟩ := h
  obtain ⟨q1, hq, h⟩ := h
  refine EvX.callV (c := 5) (mc := 0) (ms := 0) (as := []) (st := []) (by decide +kernel) l_Table_133 k_Table_rows v_Table_rows a_Table_rows (by decide) (Nat.le_of_ble_eq_true rfl) rfl ov hq (fun r kd1 m3 hr => ?_)
  obtain ⟨x2, rfl, hk, hr⟩ := hr
  subst kd1
  have h := h x2 m3 hr
  show Ev (d + 1) M_Table_countTopsLosing 0 0 4 [(2, v0), (2, v1), (0, v2), (0, v3), (0, v4), zJ, zJ, zJ, zJ] [(0, x2)] kd m3 (zqL kd q)
  refine EvX.blk (pc' := 10) [(.istore 5, 0, 0), (.lconst 0, 0, 0), (.lstore 6, 0, 0), (.aload_n 0, 0, 0)] (by decide +kernel) trivial ?_
  show Ev (d + 1) M_Table_countTopsLosing 0 0 10 [(2, v0), (2, v1), (0, v2), (0, v3), (0, v4), (0, x2), (1, 0), zJ, zJ] [(2, v0)] kd m3 (zqL kd q)
  obtain ⟨ov, h⟩ := h
  obtain ⟨q4, hq, h⟩ := h
  refine EvX.callV (c := 5) (mc := 0) (ms := 0) (as := []) (st := []) (by decide +kernel) l_Table_137 k_Table_begin v_Table_begin a_Table_begin (by decide) (Nat.le_of_ble_eq_true rfl) rfl ov hq (fun r kd1 m6 hr => ?_)
  obtain ⟨rfl, hk, hr⟩ := hr
  subst kd1
  have h := h m6 hr
  show Ev (d + 1) M_Table_countTopsLosing 0 0 13 [(2, v0), (2, v1), (0, v2), (0, v3), (0, v4), (0, x2), (1, 0), zJ, zJ] [] kd m6 (zqL kd q)
  refine EvX.blk (pc' := 16) [(.iconst 0, 0, 0), (.istore 8, 0, 0)] (by decide +kernel) trivial ?_
  show Ev (d + 1) M_Table_countTopsLosing 0 0 16 [(2, v0), (2, v1), (0, v2), (0, v3), (0, v4), (0, x2), (1, 0), zJ, (0, 0)] [] kd m6 (zqL kd q)
  exact h
theorem S_Table_countTopsLosing {d : Nat} {kd : ZK} {m : ZM} {q : Int → ZM → Prop} {v0 v1 v2 v3 v4 : Int} (h : (zobj kd v0 5 ∧ ∃ q1, CtI d M_Table_rows [(2, v0)] kd m q1 ∧ ∀ x2 m3, q1 x2 m3 → (zobj kd v0 5 ∧ ∃ q4, CtV d M_Table_begin [(2, v0)] kd m3 q4 ∧ ∀ m6, q4 m6 → (Ev (d + 1) M_Table_countTopsLosing 0 0 16 [(2, v0), (2, v1), (0, v2), (0, v3), (0, v4), (0, x2), (1, 0), zJ, (0, 0)] [] kd m6 (zqL kd q))))) : CtL (d + 1) M_Table_countTopsLosing [(2, v0), (2, v1), (0, v2), (0, v3), (0, v4)] kd m q :=
  Ct.start k_Table_countTopsLosing (Nat.le_of_ble_eq_true rfl) ⟨3, Or.inr (Or.inr (Or.inr (Or.inl ⟨rfl, rfl⟩)))⟩ (T_Table_countTopsLosing_0 h)
set_option maxRecDepth 20000 in
set_option maxHeartbeats 1000000 in
theorem T_Table_countTopsLosing_16 {d : Nat} {kd : ZK} {m : ZM} {q : Int → ZM → Prop} {v0 v1 v2 v3 v4 v5 v6 v8 : Int} (h : ((v5 ≤ v8 → q v6 m) ∧ (¬ v5 ≤ v8 → (zobj kd v0 5 ∧ ∃ q1, CtI d M_Table_high [(2, v0)] kd m q1 ∧ ∀ x2 m3, q1 x2 m3 → ((x2 ≠ v2 → (zobj kd v0 5 ∧ ∃ q4, CtV d M_Table_step [(2, v0)] kd m3 q4 ∧ ∀ m6, q4 m6 → (Ev (d + 1) M_Table_countTopsLosing 0 0 16 [(2, v0), (2, v1), (0, v2), (0, v3), (0, v4), (0, v5), (1, v6), zJ, (0, iw (v8 + 1))] [] kd m6 (zqL kd q)))) ∧ (¬ x2 ≠ v2 → (zobj kd v0 5 ∧ ∃ q7, CtI d M_Table_topRowsLosing [(2, v0), (2, v1), (0, v3), (0, v4)] kd m3 q7 ∧ ∀ x8 m9, q7 x8 m9 → (zobj kd v0 5 ∧ ∃ q10, CtV d M_Table_step [(2, v0)] kd m9 q10 ∧ ∀ m12, q10 m12 → (Ev (d + 1) M_Table_countTopsLosing 0 0 16 [(2, v0), (2, v1), (0, v2), (0, v3), (0, v4), (0, v5), (1, lw64 (v6 + x8)), zJ, (0, iw (v8 + 1))] [] kd m12 (zqL kd q)))))))))) : Ev (d + 1) M_Table_countTopsLosing 0 0 16 [(2, v0), (2, v1), (0, v2), (0, v3), (0, v4), (0, v5), (1, v6), zJ, (0, v8)] [] kd m (zqL kd q) := by
  refine EvX.blk (pc' := 20) [(.iload 8, 0, 0), (.iload 5, 0, 0)] (by decide +kernel) trivial ?_
  show Ev (d + 1) M_Table_countTopsLosing 0 0 20 [(2, v0), (2, v1), (0, v2), (0, v3), (0, v4), (0, v5), (1, v6), zJ, (0, v8)] [(0, v5), (0, v8)] kd m (zqL kd q)
  refine EvX.icmp_ge (off := 35) (tgt := 55) (by decide +kernel) (by decide) (fun hc => ?_) (fun hc => ?_)
  · have h := h.1 hc
    refine EvX.blk (pc' := 57) [(.lload 6, 0, 0)] (by decide +kernel) trivial ?_
    show Ev (d + 1) M_Table_countTopsLosing 0 0 57 [(2, v0), (2, v1), (0, v2), (0, v3), (0, v4), (0, v5), (1, v6), zJ, (0, v8)] [(1, v6)] kd m (zqL kd q)
    exact EvX.ret (r := (1, v6)) (by decide +kernel) rfl ⟨_, rfl, rfl, h⟩
  · have h := h.2 hc
    refine EvX.blk (pc' := 24) [(.aload_n 0, 0, 0)] (by decide +kernel) trivial ?_
    show Ev (d + 1) M_Table_countTopsLosing 0 0 24 [(2, v0), (2, v1), (0, v2), (0, v3), (0, v4), (0, v5), (1, v6), zJ, (0, v8)] [(2, v0)] kd m (zqL kd q)
    obtain ⟨ov, h⟩ := h
    obtain ⟨q1, hq, h⟩ := h
    refine EvX.callV (c := 5) (mc := 0) (ms := 0) (as := []) (st := []) (by decide +kernel) l_Table_155 k_Table_high v_Table_high a_Table_high (by decide) (Nat.le_of_ble_eq_true rfl) rfl ov hq (fun r kd1 m3 hr => ?_)
    obtain ⟨x2, rfl, hk, hr⟩ := hr
    subst kd1
    have h := h x2 m3 hr
    show Ev (d + 1) M_Table_countTopsLosing 0 0 27 [(2, v0), (2, v1), (0, v2), (0, v3), (0, v4), (0, v5), (1, v6), zJ, (0, v8)] [(0, x2)] kd m3 (zqL kd q)
    refine EvX.blk (pc' := 28) [(.iload_n 2, 0, 0)] (by decide +kernel) trivial ?_
    show Ev (d + 1) M_Table_countTopsLosing 0 0 28 [(2, v0), (2, v1), (0, v2), (0, v3), (0, v4), (0, v5), (1, v6), zJ, (0, v8)] [(0, v2), (0, x2)] kd m3 (zqL kd q)
    refine EvX.icmp_ne (off := 17) (tgt := 45) (by decide +kernel) (by decide) (fun hc => ?_) (fun hc => ?_)
    · have h := h.1 hc
      refine EvX.blk (pc' := 46) [(.aload_n 0, 0, 0)] (by decide +kernel) trivial ?_
      show Ev (d + 1) M_Table_countTopsLosing 0 0 46 [(2, v0), (2, v1), (0, v2), (0, v3), (0, v4), (0, v5), (1, v6), zJ, (0, v8)] [(2, v0)] kd m3 (zqL kd q)
      obtain ⟨ov, h⟩ := h
      obtain ⟨q4, hq, h⟩ := h
      refine EvX.callV (c := 5) (mc := 0) (ms := 0) (as := []) (st := []) (by decide +kernel) l_Table_143 k_Table_step v_Table_step a_Table_step (by decide) (Nat.le_of_ble_eq_true rfl) rfl ov hq (fun r kd1 m6 hr => ?_)
      obtain ⟨rfl, hk, hr⟩ := hr
      subst kd1
      have h := h m6 hr
      show Ev (d + 1) M_Table_countTopsLosing 0 0 49 [(2, v0), (2, v1), (0, v2), (0, v3), (0, v4), (0, v5), (1, v6), zJ, (0, v8)] [] kd m6 (zqL kd q)
      refine EvX.blk (pc' := 52) [(.iinc 8 1, 0, 0)] (by decide +kernel) trivial ?_
      show Ev (d + 1) M_Table_countTopsLosing 0 0 52 [(2, v0), (2, v1), (0, v2), (0, v3), (0, v4), (0, v5), (1, v6), zJ, (0, iw (v8 + 1))] [] kd m6 (zqL kd q)
      refine EvX.goto (off := (-36)) (tgt := 16) (by decide +kernel) (by decide) ?_
      exact h
    · have h := h.2 hc
      refine EvX.blk (pc' := 38) [(.lload 6, 0, 0), (.aload_n 0, 0, 0), (.aload_n 1, 0, 0), (.iload_n 3, 0, 0), (.iload 4, 0, 0)] (by decide +kernel) trivial ?_
      show Ev (d + 1) M_Table_countTopsLosing 0 0 38 [(2, v0), (2, v1), (0, v2), (0, v3), (0, v4), (0, v5), (1, v6), zJ, (0, v8)] [(0, v4), (0, v3), (2, v1), (2, v0), (1, v6)] kd m3 (zqL kd q)
      obtain ⟨ov, h⟩ := h
      obtain ⟨q7, hq, h⟩ := h
      refine EvX.callV (c := 5) (mc := 0) (ms := 0) (as := [(2, v1), (0, v3), (0, v4)]) (st := [(1, v6)]) (by decide +kernel) l_Table_161 k_Table_topRowsLosing v_Table_topRowsLosing a_Table_topRowsLosing (by decide) (Nat.le_of_ble_eq_true rfl) rfl ov hq (fun r kd1 m9 hr => ?_)
      obtain ⟨x8, rfl, hk, hr⟩ := hr
      subst kd1
      have h := h x8 m9 hr
      show Ev (d + 1) M_Table_countTopsLosing 0 0 41 [(2, v0), (2, v1), (0, v2), (0, v3), (0, v4), (0, v5), (1, v6), zJ, (0, v8)] [(0, x8), (1, v6)] kd m9 (zqL kd q)
      refine EvX.blk (pc' := 46) [(.i2l, 0, 0), (.ladd, 0, 0), (.lstore 6, 0, 0), (.aload_n 0, 0, 0)] (by decide +kernel) trivial ?_
      show Ev (d + 1) M_Table_countTopsLosing 0 0 46 [(2, v0), (2, v1), (0, v2), (0, v3), (0, v4), (0, v5), (1, lw64 (v6 + x8)), zJ, (0, v8)] [(2, v0)] kd m9 (zqL kd q)
      obtain ⟨ov, h⟩ := h
      obtain ⟨q10, hq, h⟩ := h
      refine EvX.callV (c := 5) (mc := 0) (ms := 0) (as := []) (st := []) (by decide +kernel) l_Table_143 k_Table_step v_Table_step a_Table_step (by decide) (Nat.le_of_ble_eq_true rfl) rfl ov hq (fun r kd1 m12 hr => ?_)
      obtain ⟨rfl, hk, hr⟩ := hr
      subst kd1
      have h := h m12 hr
      show Ev (d + 1) M_Table_countTopsLosing 0 0 49 [(2, v0), (2, v1), (0, v2), (0, v3), (0, v4), (0, v5), (1, lw64 (v6 + x8)), zJ, (0, v8)] [] kd m12 (zqL kd q)
      refine EvX.blk (pc' := 52) [(.iinc 8 1, 0, 0)] (by decide +kernel) trivial ?_
      show Ev (d + 1) M_Table_countTopsLosing 0 0 52 [(2, v0), (2, v1), (0, v2), (0, v3), (0, v4), (0, v5), (1, lw64 (v6 + x8)), zJ, (0, iw (v8 + 1))] [] kd m12 (zqL kd q)
      refine EvX.goto (off := (-36)) (tgt := 16) (by decide +kernel) (by decide) ?_
      exact h
set_option maxRecDepth 20000 in
set_option maxHeartbeats 1000000 in
theorem T_Table_topRowsLosing_0 {d : Nat} {kd : ZK} {m : ZM} {q : Int → ZM → Prop} {v0 v1 v2 v3 : Int} (h : (zobj kd v0 5 ∧ ∃ q1, CtI d M_Table_topRepliesLosing [(2, v0), (2, v1), (0, v2), (0, v3)] kd m q1 ∧ ∀ x2 m3, q1 x2 m3 → (Ev (d + 1) M_Table_topRowsLosing 0 0 12 [(2, v0), zJ, zJ, (0, v3), (0, x2), (0, 0)] [] kd m3 (zqI kd q)))) : Ev (d + 1) M_Table_topRowsLosing 0 0 0 [(2, v0), (2, v1), (0, v2), (0, v3), zJ, zJ] [] kd m (zqI kd q) := by
  refine EvX.blk (pc' := 4) [(.aload_n 0, 0, 0), (.aload_n 1, 0, 0), (.iload_n 2, 0, 0), (.iload_n 3, 0, 0)] (by decide +kernel) trivial ?_
  show Ev (d + 1) M_Table_topRowsLosing 0 0 4 [(2, v0), (2, v1), (0, v2), (0, v3), zJ, zJ] [(0, v3), (0, v2), (2, v1), (2, v0)] kd m (zqI kd q)
  obtain ⟨ov, h⟩ := h
  obtain ⟨q1, hq, h⟩ := h
  refine EvX.callV (c := 5) (mc := 0) (ms := 0) (as := [(2, v1), (0, v2), (0, v3)]) (st := []) (by decide +kernel) l_Table_165 k_Table_topRepliesLosing v_Table_topRepliesLosing a_Table_topRepliesLosing (by decide) (Nat.le_of_ble_eq_true rfl) rfl ov hq (fun r kd1 m3 hr => ?_)
  obtain ⟨x2, rfl, hk, hr⟩ := hr
  subst kd1
  have h := h x2 m3 hr
  show Ev (d + 1) M_Table_topRowsLosing 0 0 7 [(2, v0), (2, v1), (0, v2), (0, v3), zJ, zJ] [(0, x2)] kd m3 (zqI kd q)
  refine EvX.blk (pc' := 12) [(.istore 4, 0, 0), (.iconst 0, 0, 0), (.istore 5, 0, 0)] (by decide +kernel) trivial ?_
  show Ev (d + 1) M_Table_topRowsLosing 0 0 12 [(2, v0), (2, v1), (0, v2), (0, v3), (0, x2), (0, 0)] [] kd m3 (zqI kd q)
  exact EvX.weak (ls2 := [(2, v0), zJ, zJ, (0, v3), (0, x2), (0, 0)]) (zwk_of ⟨Or.inr rfl, Or.inl rfl, Or.inl rfl, Or.inr rfl, Or.inr rfl, Or.inr rfl, trivial⟩) h
theorem S_Table_topRowsLosing {d : Nat} {kd : ZK} {m : ZM} {q : Int → ZM → Prop} {v0 v1 v2 v3 : Int} (h : (zobj kd v0 5 ∧ ∃ q1, CtI d M_Table_topRepliesLosing [(2, v0), (2, v1), (0, v2), (0, v3)] kd m q1 ∧ ∀ x2 m3, q1 x2 m3 → (Ev (d + 1) M_Table_topRowsLosing 0 0 12 [(2, v0), zJ, zJ, (0, v3), (0, x2), (0, 0)] [] kd m3 (zqI kd q)))) : CtI (d + 1) M_Table_topRowsLosing [(2, v0), (2, v1), (0, v2), (0, v3)] kd m q :=
  Ct.start k_Table_topRowsLosing (Nat.le_of_ble_eq_true rfl) ⟨1, Or.inr (Or.inl ⟨rfl, rfl⟩)⟩ (T_Table_topRowsLosing_0 h)
set_option maxRecDepth 20000 in
set_option maxHeartbeats 1000000 in
theorem T_Table_topRowsLosing_12 {d : Nat} {kd : ZK} {m : ZM} {q : Int → ZM → Prop} {v0 v3 v4 v5 : Int} (h : (zobj kd v0 5 ∧ (((m v0 2) ≤ v5 → q v4 m) ∧ (¬ (m v0 2) ≤ v5 → ((v5 = v3 → (Ev (d + 1) M_Table_topRowsLosing 0 0 12 [(2, v0), zJ, zJ, (0, v3), (0, v4), (0, iw (v5 + 1))] [] kd m (zqI kd q))) ∧ (¬ v5 = v3 → (zobj kd v0 5 ∧ ∃ q1, CtI d M_Table_topReplies [(2, v0), (0, v5)] kd m q1 ∧ ∀ x2 m3, q1 x2 m3 → (Ev (d + 1) M_Table_topRowsLosing 0 0 12 [(2, v0), zJ, zJ, (0, v3), (0, iw (v4 * x2)), (0, iw (v5 + 1))] [] kd m3 (zqI kd q))))))))) : Ev (d + 1) M_Table_topRowsLosing 0 0 12 [(2, v0), zJ, zJ, (0, v3), (0, v4), (0, v5)] [] kd m (zqI kd q) := by
  obtain ⟨o1, h⟩ := h
  refine EvX.blk (pc' := 18) [(.iload 5, 0, 0), (.aload_n 0, 0, 0), (.getfield 18, 5, 2)] (by decide +kernel) ⟨g_Table_18, trivial⟩ ⟨o1, ?_⟩
  show Ev (d + 1) M_Table_topRowsLosing 0 0 18 [(2, v0), zJ, zJ, (0, v3), (0, v4), (0, v5)] [(0, m v0 2), (0, v5)] kd m (zqI kd q)
  refine EvX.icmp_ge (off := 26) (tgt := 44) (by decide +kernel) (by decide) (fun hc => ?_) (fun hc => ?_)
  · have h := h.1 hc
    refine EvX.blk (pc' := 46) [(.iload 4, 0, 0)] (by decide +kernel) trivial ?_
    show Ev (d + 1) M_Table_topRowsLosing 0 0 46 [(2, v0), zJ, zJ, (0, v3), (0, v4), (0, v5)] [(0, v4)] kd m (zqI kd q)
    exact EvX.ret (r := (0, v4)) (by decide +kernel) rfl ⟨_, rfl, rfl, h⟩
  · have h := h.2 hc
    refine EvX.blk (pc' := 24) [(.iload 5, 0, 0), (.iload_n 3, 0, 0)] (by decide +kernel) trivial ?_
    show Ev (d + 1) M_Table_topRowsLosing 0 0 24 [(2, v0), zJ, zJ, (0, v3), (0, v4), (0, v5)] [(0, v3), (0, v5)] kd m (zqI kd q)
    refine EvX.icmp_eq (off := 14) (tgt := 38) (by decide +kernel) (by decide) (fun hc => ?_) (fun hc => ?_)
    · have h := h.1 hc
      refine EvX.blk (pc' := 41) [(.iinc 5 1, 0, 0)] (by decide +kernel) trivial ?_
      show Ev (d + 1) M_Table_topRowsLosing 0 0 41 [(2, v0), zJ, zJ, (0, v3), (0, v4), (0, iw (v5 + 1))] [] kd m (zqI kd q)
      refine EvX.goto (off := (-29)) (tgt := 12) (by decide +kernel) (by decide) ?_
      exact h
    · have h := h.2 hc
      refine EvX.blk (pc' := 32) [(.iload 4, 0, 0), (.aload_n 0, 0, 0), (.iload 5, 0, 0)] (by decide +kernel) trivial ?_
      show Ev (d + 1) M_Table_topRowsLosing 0 0 32 [(2, v0), zJ, zJ, (0, v3), (0, v4), (0, v5)] [(0, v5), (2, v0), (0, v4)] kd m (zqI kd q)
      obtain ⟨ov, h⟩ := h
      obtain ⟨q1, hq, h⟩ := h
      refine EvX.callV (c := 5) (mc := 0) (ms := 0) (as := [(0, v5)]) (st := [(0, v4)]) (by decide +kernel) l_Table_152 k_Table_topReplies v_Table_topReplies a_Table_topReplies (by decide) (Nat.le_of_ble_eq_true rfl) rfl ov hq (fun r kd1 m3 hr => ?_)
      obtain ⟨x2, rfl, hk, hr⟩ := hr
      subst kd1
      have h := h x2 m3 hr
      show Ev (d + 1) M_Table_topRowsLosing 0 0 35 [(2, v0), zJ, zJ, (0, v3), (0, v4), (0, v5)] [(0, x2), (0, v4)] kd m3 (zqI kd q)
      refine EvX.blk (pc' := 41) [(.imul, 0, 0), (.istore 4, 0, 0), (.iinc 5 1, 0, 0)] (by decide +kernel) trivial ?_
      show Ev (d + 1) M_Table_topRowsLosing 0 0 41 [(2, v0), zJ, zJ, (0, v3), (0, iw (v4 * x2)), (0, iw (v5 + 1))] [] kd m3 (zqI kd q)
      refine EvX.goto (off := (-29)) (tgt := 12) (by decide +kernel) (by decide) ?_
      exact h
set_option maxRecDepth 20000 in
set_option maxHeartbeats 1000000 in
theorem T_Table_topRepliesLosing_0 {d : Nat} {kd : ZK} {m : ZM} {q : Int → ZM → Prop} {v0 v1 v2 v3 : Int} (h : (Ev (d + 1) M_Table_topRepliesLosing 0 0 6 [(2, v0), (2, v1), (0, v2), (0, v3), (0, 0), (0, 0)] [] kd m (zqI kd q))) : Ev (d + 1) M_Table_topRepliesLosing 0 0 0 [(2, v0), (2, v1), (0, v2), (0, v3), zJ, zJ] [] kd m (zqI kd q) := by
  refine EvX.blk (pc' := 6) [(.iconst 0, 0, 0), (.istore 4, 0, 0), (.iconst 0, 0, 0), (.istore 5, 0, 0)] (by decide +kernel) trivial ?_
  show Ev (d + 1) M_Table_topRepliesLosing 0 0 6 [(2, v0), (2, v1), (0, v2), (0, v3), (0, 0), (0, 0)] [] kd m (zqI kd q)
  exact h
theorem S_Table_topRepliesLosing {d : Nat} {kd : ZK} {m : ZM} {q : Int → ZM → Prop} {v0 v1 v2 v3 : Int} (h : (Ev (d + 1) M_Table_topRepliesLosing 0 0 6 [(2, v0), (2, v1), (0, v2), (0, v3), (0, 0), (0, 0)] [] kd m (zqI kd q))) : CtI (d + 1) M_Table_topRepliesLosing [(2, v0), (2, v1), (0, v2), (0, v3)] kd m q :=
  Ct.start k_Table_topRepliesLosing (Nat.le_of_ble_eq_true rfl) ⟨1, Or.inr (Or.inl ⟨rfl, rfl⟩)⟩ (T_Table_topRepliesLosing_0 h)
set_option maxRecDepth 20000 in
set_option maxHeartbeats 1000000 in
theorem T_Table_topRepliesLosing_6 {d : Nat} {kd : ZK} {m : ZM} {q : Int → ZM → Prop} {v0 v1 v2 v3 v4 v5 : Int} (h : (zobj kd v0 5 ∧ (((m v0 3) ≤ v5 → q v4 m) ∧ (¬ (m v0 3) ≤ v5 → (zobj kd v0 5 ∧ ∃ q1, CtI d M_Table_isTopReply [(2, v0), (0, v3), (0, v5)] kd m q1 ∧ ∀ x2 m3, q1 x2 m3 → ((x2 = 0 → (Ev (d + 1) M_Table_topRepliesLosing 0 0 6 [(2, v0), (2, v1), (0, v2), (0, v3), (0, v4), (0, iw (v5 + 1))] [] kd m3 (zqI kd q))) ∧ (¬ x2 = 0 → (zobj kd v1 1 ∧ zobj kd v0 5 ∧ zIn kd (m3 v0 9) 0 v2 ∧ (∃ q4, CtI d M_Ap_spotOf [(0, 0), (0, v2), (0, v3), (0, m3 (m3 v0 9) v2), (0, v5)] kd m3 q4 ∧ ∀ x5 m6, q4 x5 m6 → (zIn kd (m3 v1 5) 0 x5 ∧ (((m6 (m3 v1 5) x5) ≠ 0 → (Ev (d + 1) M_Table_topRepliesLosing 0 0 6 [(2, v0), (2, v1), (0, v2), (0, v3), (0, v4), (0, iw (v5 + 1))] [] kd m6 (zqI kd q))) ∧ (¬ (m6 (m3 v1 5) x5) ≠ 0 → (Ev (d + 1) M_Table_topRepliesLosing 0 0 6 [(2, v0), (2, v1), (0, v2), (0, v3), (0, iw (v4 + 1)), (0, iw (v5 + 1))] [] kd m6 (zqI kd q)))))))))))))) : Ev (d + 1) M_Table_topRepliesLosing 0 0 6 [(2, v0), (2, v1), (0, v2), (0, v3), (0, v4), (0, v5)] [] kd m (zqI kd q) := by
  obtain ⟨o1, h⟩ := h
  refine EvX.blk (pc' := 12) [(.iload 5, 0, 0), (.aload_n 0, 0, 0), (.getfield 21, 5, 3)] (by decide +kernel) ⟨g_Table_21, trivial⟩ ⟨o1, ?_⟩
  show Ev (d + 1) M_Table_topRepliesLosing 0 0 12 [(2, v0), (2, v1), (0, v2), (0, v3), (0, v4), (0, v5)] [(0, m v0 3), (0, v5)] kd m (zqI kd q)
  refine EvX.icmp_ge (off := 44) (tgt := 56) (by decide +kernel) (by decide) (fun hc => ?_) (fun hc => ?_)
  · have h := h.1 hc
    refine EvX.blk (pc' := 58) [(.iload 4, 0, 0)] (by decide +kernel) trivial ?_
    show Ev (d + 1) M_Table_topRepliesLosing 0 0 58 [(2, v0), (2, v1), (0, v2), (0, v3), (0, v4), (0, v5)] [(0, v4)] kd m (zqI kd q)
    exact EvX.ret (r := (0, v4)) (by decide +kernel) rfl ⟨_, rfl, rfl, h⟩
  · have h := h.2 hc
    refine EvX.blk (pc' := 19) [(.aload_n 0, 0, 0), (.iload_n 3, 0, 0), (.iload 5, 0, 0)] (by decide +kernel) trivial ?_
    show Ev (d + 1) M_Table_topRepliesLosing 0 0 19 [(2, v0), (2, v1), (0, v2), (0, v3), (0, v4), (0, v5)] [(0, v5), (0, v3), (2, v0)] kd m (zqI kd q)
    obtain ⟨ov, h⟩ := h
    obtain ⟨q1, hq, h⟩ := h
    refine EvX.callV (c := 5) (mc := 0) (ms := 0) (as := [(0, v3), (0, v5)]) (st := []) (by decide +kernel) l_Table_168 k_Table_isTopReply v_Table_isTopReply a_Table_isTopReply (by decide) (Nat.le_of_ble_eq_true rfl) rfl ov hq (fun r kd1 m3 hr => ?_)
    obtain ⟨x2, rfl, hk, hr⟩ := hr
    subst kd1
    have h := h x2 m3 hr
    show Ev (d + 1) M_Table_topRepliesLosing 0 0 22 [(2, v0), (2, v1), (0, v2), (0, v3), (0, v4), (0, v5)] [(0, x2)] kd m3 (zqI kd q)
    refine EvX.if_eq (off := 28) (tgt := 50) (by decide +kernel) (by decide) (fun hc => ?_) (fun hc => ?_)
    · have h := h.1 hc
      refine EvX.blk (pc' := 53) [(.iinc 5 1, 0, 0)] (by decide +kernel) trivial ?_
      show Ev (d + 1) M_Table_topRepliesLosing 0 0 53 [(2, v0), (2, v1), (0, v2), (0, v3), (0, v4), (0, iw (v5 + 1))] [] kd m3 (zqI kd q)
      refine EvX.goto (off := (-47)) (tgt := 6) (by decide +kernel) (by decide) ?_
      exact h
    · have h := h.2 hc
      obtain ⟨o1, o2, o3, h⟩ := h
      refine EvX.blk (pc' := 40) [(.aload_n 1, 0, 0), (.getfield 94, 1, 5), (.iconst 0, 0, 0), (.iload_n 2, 0, 0), (.iload_n 3, 0, 0), (.aload_n 0, 0, 0), (.getfield 41, 5, 9), (.iload_n 2, 0, 0), (.iaload, 0, 0), (.iload 5, 0, 0)] (by decide +kernel) ⟨g_Table_94, g_Table_41, trivial⟩ ⟨o1, o2, o3, ?_⟩
      show Ev (d + 1) M_Table_topRepliesLosing 0 0 40 [(2, v0), (2, v1), (0, v2), (0, v3), (0, v4), (0, v5)] [(0, v5), (0, m3 (m3 v0 9) v2), (0, v3), (0, v2), (0, 0), (2, m3 v1 5)] kd m3 (zqI kd q)
      obtain ⟨q4, hq, h⟩ := h
      refine EvX.callS (mc := 0) (ms := 0) (as := [(0, 0), (0, v2), (0, v3), (0, m3 (m3 v0 9) v2), (0, v5)]) (st := [(2, m3 v1 5)]) (by decide +kernel) l_Table_97 k_Ap_spotOf s_Ap_spotOf a_Ap_spotOf (by decide) (Nat.le_of_ble_eq_true rfl) hq (fun r kd1 m6 hr => ?_)
      obtain ⟨x5, rfl, hk, hr⟩ := hr
      subst kd1
      have h := h x5 m6 hr
      show Ev (d + 1) M_Table_topRepliesLosing 0 0 43 [(2, v0), (2, v1), (0, v2), (0, v3), (0, v4), (0, v5)] [(0, x5), (2, m3 v1 5)] kd m6 (zqI kd q)
      obtain ⟨o1, h⟩ := h
      refine EvX.blk (pc' := 44) [(.iaload, 0, 0)] (by decide +kernel) trivial ⟨o1, ?_⟩
      show Ev (d + 1) M_Table_topRepliesLosing 0 0 44 [(2, v0), (2, v1), (0, v2), (0, v3), (0, v4), (0, v5)] [(0, m6 (m3 v1 5) x5)] kd m6 (zqI kd q)
      refine EvX.if_ne (off := 6) (tgt := 50) (by decide +kernel) (by decide) (fun hc => ?_) (fun hc => ?_)
      · have h := h.1 hc
        refine EvX.blk (pc' := 53) [(.iinc 5 1, 0, 0)] (by decide +kernel) trivial ?_
        show Ev (d + 1) M_Table_topRepliesLosing 0 0 53 [(2, v0), (2, v1), (0, v2), (0, v3), (0, v4), (0, iw (v5 + 1))] [] kd m6 (zqI kd q)
        refine EvX.goto (off := (-47)) (tgt := 6) (by decide +kernel) (by decide) ?_
        exact h
      · have h := h.2 hc
        refine EvX.blk (pc' := 53) [(.iinc 4 1, 0, 0), (.iinc 5 1, 0, 0)] (by decide +kernel) trivial ?_
        show Ev (d + 1) M_Table_topRepliesLosing 0 0 53 [(2, v0), (2, v1), (0, v2), (0, v3), (0, iw (v4 + 1)), (0, iw (v5 + 1))] [] kd m6 (zqI kd q)
        refine EvX.goto (off := (-47)) (tgt := 6) (by decide +kernel) (by decide) ?_
        exact h
set_option maxRecDepth 20000 in
set_option maxHeartbeats 1000000 in
theorem T_Table_rowOfTop_0 {d : Nat} {kd : ZK} {m : ZM} {q : Int → ZM → Prop} {v0 v1 v2 v3 : Int} (h : (zobj kd v0 5 ∧ ∃ q1, CtI d M_Table_rows [(2, v0)] kd m q1 ∧ ∀ x2 m3, q1 x2 m3 → (zobj kd v0 5 ∧ ∃ q4, CtV d M_Table_begin [(2, v0)] kd m3 q4 ∧ ∀ m6, q4 m6 → (Ev (d + 1) M_Table_rowOfTop 0 0 16 [(2, v0), (0, v1), zJ, (0, v3), (0, x2), (0, v2), (0, 0), zJ] [] kd m6 (zqI kd q))))) : Ev (d + 1) M_Table_rowOfTop 0 0 0 [(2, v0), (0, v1), (0, v2), (0, v3), zJ, zJ, zJ, zJ] [] kd m (zqI kd q) := by
  refine EvX.blk (pc' := 1) [(.aload_n 0, 0, 0)] (by decide +kernel) trivial ?_
  show Ev (d + 1) M_Table_rowOfTop 0 0 1 [(2, v0), (0, v1), (0, v2), (0, v3), zJ, zJ, zJ, zJ] [(2, v0)] kd m (zqI kd q)
  obtain ⟨ov, h⟩ := h
  obtain ⟨q1, hq, h⟩ := h
  refine EvX.callV (c := 5) (mc := 0) (ms := 0) (as := []) (st := []) (by decide +kernel) l_Table_133 k_Table_rows v_Table_rows a_Table_rows (by decide) (Nat.le_of_ble_eq_true rfl) rfl ov hq (fun r kd1 m3 hr => ?_)
  obtain ⟨x2, rfl, hk, hr⟩ := hr
  subst kd1
  have h := h x2 m3 hr
  show Ev (d + 1) M_Table_rowOfTop 0 0 4 [(2, v0), (0, v1), (0, v2), (0, v3), zJ, zJ, zJ, zJ] [(0, x2)] kd m3 (zqI kd q)
  refine EvX.blk (pc' := 10) [(.istore 4, 0, 0), (.iload_n 2, 0, 0), (.istore 5, 0, 0), (.aload_n 0, 0, 0)] (by decide +kernel) trivial ?_
  show Ev (d + 1) M_Table_rowOfTop 0 0 10 [(2, v0), (0, v1), (0, v2), (0, v3), (0, x2), (0, v2), zJ, zJ] [(2, v0)] kd m3 (zqI kd q)
  obtain ⟨ov, h⟩ := h
  obtain ⟨q4, hq, h⟩ := h
  refine EvX.callV (c := 5) (mc := 0) (ms := 0) (as := []) (st := []) (by decide +kernel) l_Table_137 k_Table_begin v_Table_begin a_Table_begin (by decide) (Nat.le_of_ble_eq_true rfl) rfl ov hq (fun r kd1 m6 hr => ?_)
  obtain ⟨rfl, hk, hr⟩ := hr
  subst kd1
  have h := h m6 hr
  show Ev (d + 1) M_Table_rowOfTop 0 0 13 [(2, v0), (0, v1), (0, v2), (0, v3), (0, x2), (0, v2), zJ, zJ] [] kd m6 (zqI kd q)
  refine EvX.blk (pc' := 16) [(.iconst 0, 0, 0), (.istore 6, 0, 0)] (by decide +kernel) trivial ?_
  show Ev (d + 1) M_Table_rowOfTop 0 0 16 [(2, v0), (0, v1), (0, v2), (0, v3), (0, x2), (0, v2), (0, 0), zJ] [] kd m6 (zqI kd q)
  exact EvX.weak (ls2 := [(2, v0), (0, v1), zJ, (0, v3), (0, x2), (0, v2), (0, 0), zJ]) (zwk_of ⟨Or.inr rfl, Or.inr rfl, Or.inl rfl, Or.inr rfl, Or.inr rfl, Or.inr rfl, Or.inr rfl, Or.inl rfl, trivial⟩) h
theorem S_Table_rowOfTop {d : Nat} {kd : ZK} {m : ZM} {q : Int → ZM → Prop} {v0 v1 v2 v3 : Int} (h : (zobj kd v0 5 ∧ ∃ q1, CtI d M_Table_rows [(2, v0)] kd m q1 ∧ ∀ x2 m3, q1 x2 m3 → (zobj kd v0 5 ∧ ∃ q4, CtV d M_Table_begin [(2, v0)] kd m3 q4 ∧ ∀ m6, q4 m6 → (Ev (d + 1) M_Table_rowOfTop 0 0 16 [(2, v0), (0, v1), zJ, (0, v3), (0, x2), (0, v2), (0, 0), zJ] [] kd m6 (zqI kd q))))) : CtI (d + 1) M_Table_rowOfTop [(2, v0), (0, v1), (0, v2), (0, v3)] kd m q :=
  Ct.start k_Table_rowOfTop (Nat.le_of_ble_eq_true rfl) ⟨1, Or.inr (Or.inl ⟨rfl, rfl⟩)⟩ (T_Table_rowOfTop_0 h)
set_option maxRecDepth 20000 in
set_option maxHeartbeats 1000000 in
theorem T_Table_rowOfTop_16 {d : Nat} {kd : ZK} {m : ZM} {q : Int → ZM → Prop} {v0 v1 v3 v4 v5 v6 : Int} (h : ((v4 ≤ v6 → q (-2) m) ∧ (¬ v4 ≤ v6 → (zobj kd v0 5 ∧ ∃ q1, CtI d M_Table_high [(2, v0)] kd m q1 ∧ ∀ x2 m3, q1 x2 m3 → ((x2 ≠ v1 → (Ev (d + 1) M_Table_rowOfTop 0 0 40 [(2, v0), (0, v1), zJ, (0, v3), (0, v4), (0, v5), (0, v6), zJ] [(0, 0)] kd m3 (zqI kd q))) ∧ (¬ x2 ≠ v1 → (zobj kd v0 5 ∧ ∃ q4, CtI d M_Table_topRowsFrom [(2, v0), (0, 0)] kd m3 q4 ∧ ∀ x5 m6, q4 x5 m6 → (Ev (d + 1) M_Table_rowOfTop 0 0 40 [(2, v0), (0, v1), zJ, (0, v3), (0, v4), (0, v5), (0, v6), zJ] [(0, x5)] kd m6 (zqI kd q))))))))) : Ev (d + 1) M_Table_rowOfTop 0 0 16 [(2, v0), (0, v1), zJ, (0, v3), (0, v4), (0, v5), (0, v6), zJ] [] kd m (zqI kd q) := by
  refine EvX.blk (pc' := 20) [(.iload 6, 0, 0), (.iload 4, 0, 0)] (by decide +kernel) trivial ?_
  show Ev (d + 1) M_Table_rowOfTop 0 0 20 [(2, v0), (0, v1), zJ, (0, v3), (0, v4), (0, v5), (0, v6), zJ] [(0, v4), (0, v6)] kd m (zqI kd q)
  refine EvX.icmp_ge (off := 80) (tgt := 100) (by decide +kernel) (by decide) (fun hc => ?_) (fun hc => ?_)
  · have h := h.1 hc
    refine EvX.blk (pc' := 102) [(.bipush (-2), 0, 0)] (by decide +kernel) trivial ?_
    show Ev (d + 1) M_Table_rowOfTop 0 0 102 [(2, v0), (0, v1), zJ, (0, v3), (0, v4), (0, v5), (0, v6), zJ] [(0, (-2))] kd m (zqI kd q)
    exact EvX.ret (r := (0, (-2))) (by decide +kernel) rfl ⟨_, rfl, rfl, h⟩
  · have h := h.2 hc
    refine EvX.blk (pc' := 24) [(.aload_n 0, 0, 0)] (by decide +kernel) trivial ?_
    show Ev (d + 1) M_Table_rowOfTop 0 0 24 [(2, v0), (0, v1), zJ, (0, v3), (0, v4), (0, v5), (0, v6), zJ] [(2, v0)] kd m (zqI kd q)
    obtain ⟨ov, h⟩ := h
    obtain ⟨q1, hq, h⟩ := h
    refine EvX.callV (c := 5) (mc := 0) (ms := 0) (as := []) (st := []) (by decide +kernel) l_Table_155 k_Table_high v_Table_high a_Table_high (by decide) (Nat.le_of_ble_eq_true rfl) rfl ov hq (fun r kd1 m3 hr => ?_)
    obtain ⟨x2, rfl, hk, hr⟩ := hr
    subst kd1
    have h := h x2 m3 hr
    show Ev (d + 1) M_Table_rowOfTop 0 0 27 [(2, v0), (0, v1), zJ, (0, v3), (0, v4), (0, v5), (0, v6), zJ] [(0, x2)] kd m3 (zqI kd q)
    refine EvX.blk (pc' := 28) [(.iload_n 1, 0, 0)] (by decide +kernel) trivial ?_
    show Ev (d + 1) M_Table_rowOfTop 0 0 28 [(2, v0), (0, v1), zJ, (0, v3), (0, v4), (0, v5), (0, v6), zJ] [(0, v1), (0, x2)] kd m3 (zqI kd q)
    refine EvX.icmp_ne (off := 11) (tgt := 39) (by decide +kernel) (by decide) (fun hc => ?_) (fun hc => ?_)
    · have h := h.1 hc
      refine EvX.blk (pc' := 40) [(.iconst 0, 0, 0)] (by decide +kernel) trivial ?_
      show Ev (d + 1) M_Table_rowOfTop 0 0 40 [(2, v0), (0, v1), zJ, (0, v3), (0, v4), (0, v5), (0, v6), zJ] [(0, 0)] kd m3 (zqI kd q)
      exact h
    · have h := h.2 hc
      refine EvX.blk (pc' := 33) [(.aload_n 0, 0, 0), (.iconst 0, 0, 0)] (by decide +kernel) trivial ?_
      show Ev (d + 1) M_Table_rowOfTop 0 0 33 [(2, v0), (0, v1), zJ, (0, v3), (0, v4), (0, v5), (0, v6), zJ] [(0, 0), (2, v0)] kd m3 (zqI kd q)
      obtain ⟨ov, h⟩ := h
      obtain ⟨q4, hq, h⟩ := h
      refine EvX.callV (c := 5) (mc := 0) (ms := 0) (as := [(0, 0)]) (st := []) (by decide +kernel) l_Table_158 k_Table_topRowsFrom v_Table_topRowsFrom a_Table_topRowsFrom (by decide) (Nat.le_of_ble_eq_true rfl) rfl ov hq (fun r kd1 m6 hr => ?_)
      obtain ⟨x5, rfl, hk, hr⟩ := hr
      subst kd1
      have h := h x5 m6 hr
      show Ev (d + 1) M_Table_rowOfTop 0 0 36 [(2, v0), (0, v1), zJ, (0, v3), (0, v4), (0, v5), (0, v6), zJ] [(0, x5)] kd m6 (zqI kd q)
      refine EvX.goto (off := 4) (tgt := 40) (by decide +kernel) (by decide) ?_
      exact h
set_option maxRecDepth 20000 in
set_option maxHeartbeats 1000000 in
theorem T_Table_rowOfTop_40 {d : Nat} {kd : ZK} {m : ZM} {q : Int → ZM → Prop} {v0 v1 v3 v4 v5 v6 s0 : Int} (h : ((s0 ≤ v5 → (zobj kd v0 5 ∧ ∃ q1, CtV d M_Table_step [(2, v0)] kd m q1 ∧ ∀ m3, q1 m3 → (Ev (d + 1) M_Table_rowOfTop 0 0 16 [(2, v0), (0, v1), zJ, (0, v3), (0, v4), (0, iw (v5 - s0)), (0, iw (v6 + 1)), zJ] [] kd m3 (zqI kd q)))) ∧ (¬ s0 ≤ v5 → ((v3 ≠ 0 → (zobj kd v0 5 ∧ ∃ q4, CtV d M_Table_findTopReplies [(2, v0), (0, v5)] kd m q4 ∧ ∀ m6, q4 m6 → (zobj kd v0 5 ∧ zobj kd v0 5 ∧ (∃ q7, CtI d M_Duo_numberOf [(2, m6 v0 10), (0, m6 v0 2)] kd m6 q7 ∧ ∀ x8 m9, q7 x8 m9 → q x8 m9)))) ∧ (¬ v3 ≠ 0 → (zobj kd v0 5 ∧ zobj kd v0 5 ∧ (∃ q10, CtI d M_Duo_numberOf [(2, m v0 9), (0, m v0 0)] kd m q10 ∧ ∀ x11 m12, q10 x11 m12 → q x11 m12))))))) : Ev (d + 1) M_Table_rowOfTop 0 0 40 [(2, v0), (0, v1), zJ, (0, v3), (0, v4), (0, v5), (0, v6), zJ] [(0, s0)] kd m (zqI kd q) := by
  refine EvX.blk (pc' := 46) [(.istore 7, 0, 0), (.iload 5, 0, 0), (.iload 7, 0, 0)] (by decide +kernel) trivial ?_
  show Ev (d + 1) M_Table_rowOfTop 0 0 46 [(2, v0), (0, v1), zJ, (0, v3), (0, v4), (0, v5), (0, v6), (0, s0)] [(0, s0), (0, v5)] kd m (zqI kd q)
  refine EvX.icmp_ge (off := 37) (tgt := 83) (by decide +kernel) (by decide) (fun hc => ?_) (fun hc => ?_)
  · have h := h.1 hc
    refine EvX.blk (pc' := 91) [(.iload 5, 0, 0), (.iload 7, 0, 0), (.isub, 0, 0), (.istore 5, 0, 0), (.aload_n 0, 0, 0)] (by decide +kernel) trivial ?_
    show Ev (d + 1) M_Table_rowOfTop 0 0 91 [(2, v0), (0, v1), zJ, (0, v3), (0, v4), (0, iw (v5 - s0)), (0, v6), (0, s0)] [(2, v0)] kd m (zqI kd q)
    obtain ⟨ov, h⟩ := h
    obtain ⟨q1, hq, h⟩ := h
    refine EvX.callV (c := 5) (mc := 0) (ms := 0) (as := []) (st := []) (by decide +kernel) l_Table_143 k_Table_step v_Table_step a_Table_step (by decide) (Nat.le_of_ble_eq_true rfl) rfl ov hq (fun r kd1 m3 hr => ?_)
    obtain ⟨rfl, hk, hr⟩ := hr
    subst kd1
    have h := h m3 hr
    show Ev (d + 1) M_Table_rowOfTop 0 0 94 [(2, v0), (0, v1), zJ, (0, v3), (0, v4), (0, iw (v5 - s0)), (0, v6), (0, s0)] [] kd m3 (zqI kd q)
    refine EvX.blk (pc' := 97) [(.iinc 6 1, 0, 0)] (by decide +kernel) trivial ?_
    show Ev (d + 1) M_Table_rowOfTop 0 0 97 [(2, v0), (0, v1), zJ, (0, v3), (0, v4), (0, iw (v5 - s0)), (0, iw (v6 + 1)), (0, s0)] [] kd m3 (zqI kd q)
    refine EvX.goto (off := (-81)) (tgt := 16) (by decide +kernel) (by decide) ?_
    exact EvX.weak (ls2 := [(2, v0), (0, v1), zJ, (0, v3), (0, v4), (0, iw (v5 - s0)), (0, iw (v6 + 1)), zJ]) (zwk_of ⟨Or.inr rfl, Or.inr rfl, Or.inl rfl, Or.inr rfl, Or.inr rfl, Or.inr rfl, Or.inr rfl, Or.inl rfl, trivial⟩) h
  · have h := h.2 hc
    refine EvX.blk (pc' := 50) [(.iload_n 3, 0, 0)] (by decide +kernel) trivial ?_
    show Ev (d + 1) M_Table_rowOfTop 0 0 50 [(2, v0), (0, v1), zJ, (0, v3), (0, v4), (0, v5), (0, v6), (0, s0)] [(0, v3)] kd m (zqI kd q)
    refine EvX.if_ne (off := 15) (tgt := 65) (by decide +kernel) (by decide) (fun hc => ?_) (fun hc => ?_)
    · have h := h.1 hc
      refine EvX.blk (pc' := 68) [(.aload_n 0, 0, 0), (.iload 5, 0, 0)] (by decide +kernel) trivial ?_
      show Ev (d + 1) M_Table_rowOfTop 0 0 68 [(2, v0), (0, v1), zJ, (0, v3), (0, v4), (0, v5), (0, v6), (0, s0)] [(0, v5), (2, v0)] kd m (zqI kd q)
      obtain ⟨ov, h⟩ := h
      obtain ⟨q4, hq, h⟩ := h
      refine EvX.callV (c := 5) (mc := 0) (ms := 0) (as := [(0, v5)]) (st := []) (by decide +kernel) l_Table_172 k_Table_findTopReplies v_Table_findTopReplies a_Table_findTopReplies (by decide) (Nat.le_of_ble_eq_true rfl) rfl ov hq (fun r kd1 m6 hr => ?_)
      obtain ⟨rfl, hk, hr⟩ := hr
      subst kd1
      have h := h m6 hr
      show Ev (d + 1) M_Table_rowOfTop 0 0 71 [(2, v0), (0, v1), zJ, (0, v3), (0, v4), (0, v5), (0, v6), (0, s0)] [] kd m6 (zqI kd q)
      obtain ⟨o1, o2, h⟩ := h
      refine EvX.blk (pc' := 79) [(.aload_n 0, 0, 0), (.getfield 44, 5, 10), (.aload_n 0, 0, 0), (.getfield 18, 5, 2)] (by decide +kernel) ⟨g_Table_44, g_Table_18, trivial⟩ ⟨o1, o2, ?_⟩
      show Ev (d + 1) M_Table_rowOfTop 0 0 79 [(2, v0), (0, v1), zJ, (0, v3), (0, v4), (0, v5), (0, v6), (0, s0)] [(0, m6 v0 2), (2, m6 v0 10)] kd m6 (zqI kd q)
      obtain ⟨q7, hq, h⟩ := h
      refine EvX.callS (mc := 0) (ms := 0) (as := [(2, m6 v0 10), (0, m6 v0 2)]) (st := []) (by decide +kernel) l_Table_146 k_Duo_numberOf s_Duo_numberOf a_Duo_numberOf (by decide) (Nat.le_of_ble_eq_true rfl) hq (fun r kd1 m9 hr => ?_)
      obtain ⟨x8, rfl, hk, hr⟩ := hr
      subst kd1
      have h := h x8 m9 hr
      show Ev (d + 1) M_Table_rowOfTop 0 0 82 [(2, v0), (0, v1), zJ, (0, v3), (0, v4), (0, v5), (0, v6), (0, s0)] [(0, x8)] kd m9 (zqI kd q)
      exact EvX.ret (r := (0, x8)) (by decide +kernel) rfl ⟨_, rfl, rfl, h⟩
    · have h := h.2 hc
      obtain ⟨o1, o2, h⟩ := h
      refine EvX.blk (pc' := 61) [(.aload_n 0, 0, 0), (.getfield 41, 5, 9), (.aload_n 0, 0, 0), (.getfield 9, 5, 0)] (by decide +kernel) ⟨g_Table_41, g_Table_9, trivial⟩ ⟨o1, o2, ?_⟩
      show Ev (d + 1) M_Table_rowOfTop 0 0 61 [(2, v0), (0, v1), zJ, (0, v3), (0, v4), (0, v5), (0, v6), (0, s0)] [(0, m v0 0), (2, m v0 9)] kd m (zqI kd q)
      obtain ⟨q10, hq, h⟩ := h
      refine EvX.callS (mc := 0) (ms := 0) (as := [(2, m v0 9), (0, m v0 0)]) (st := []) (by decide +kernel) l_Table_146 k_Duo_numberOf s_Duo_numberOf a_Duo_numberOf (by decide) (Nat.le_of_ble_eq_true rfl) hq (fun r kd1 m12 hr => ?_)
      obtain ⟨x11, rfl, hk, hr⟩ := hr
      subst kd1
      have h := h x11 m12 hr
      show Ev (d + 1) M_Table_rowOfTop 0 0 64 [(2, v0), (0, v1), zJ, (0, v3), (0, v4), (0, v5), (0, v6), (0, s0)] [(0, x11)] kd m12 (zqI kd q)
      exact EvX.ret (r := (0, x11)) (by decide +kernel) rfl ⟨_, rfl, rfl, h⟩
set_option maxRecDepth 20000 in
set_option maxHeartbeats 1000000 in
theorem T_Table_findTopReplies_0 {d : Nat} {kd : ZK} {m : ZM} {q : ZM → Prop} {v0 v1 : Int} (h : (Ev (d + 1) M_Table_findTopReplies 0 0 4 [(2, v0), zJ, (0, v1), (0, 0), zJ] [] kd m (zqV kd q))) : Ev (d + 1) M_Table_findTopReplies 0 0 0 [(2, v0), (0, v1), zJ, zJ, zJ] [] kd m (zqV kd q) := by
  refine EvX.blk (pc' := 4) [(.iload_n 1, 0, 0), (.istore_n 2, 0, 0), (.iconst 0, 0, 0), (.istore_n 3, 0, 0)] (by decide +kernel) trivial ?_
  show Ev (d + 1) M_Table_findTopReplies 0 0 4 [(2, v0), (0, v1), (0, v1), (0, 0), zJ] [] kd m (zqV kd q)
  exact EvX.weak (ls2 := [(2, v0), zJ, (0, v1), (0, 0), zJ]) (zwk_of ⟨Or.inr rfl, Or.inl rfl, Or.inr rfl, Or.inr rfl, Or.inl rfl, trivial⟩) h
theorem S_Table_findTopReplies {d : Nat} {kd : ZK} {m : ZM} {q : ZM → Prop} {v0 v1 : Int} (h : (Ev (d + 1) M_Table_findTopReplies 0 0 4 [(2, v0), zJ, (0, v1), (0, 0), zJ] [] kd m (zqV kd q))) : CtV (d + 1) M_Table_findTopReplies [(2, v0), (0, v1)] kd m q :=
  Ct.start k_Table_findTopReplies (Nat.le_of_ble_eq_true rfl) ⟨0, Or.inl ⟨rfl, rfl⟩⟩ (T_Table_findTopReplies_0 h)
set_option maxRecDepth 20000 in
set_option maxHeartbeats 1000000 in
theorem T_Table_findTopReplies_4 {d : Nat} {kd : ZK} {m : ZM} {q : ZM → Prop} {v0 v2 v3 : Int} (h : (zobj kd v0 5 ∧ (((m v0 2) ≤ v3 → q m) ∧ (¬ (m v0 2) ≤ v3 → (zobj kd v0 5 ∧ ∃ q1, CtI d M_Table_topRowsFrom [(2, v0), (0, iw (v3 + 1))] kd m q1 ∧ ∀ x2 m3, q1 x2 m3 → (zobj kd v0 5 ∧ ((x2 ≠ 0 → (x2 ≠ 0 ∧ (Ev (d + 1) M_Table_findTopReplies 0 0 41 [(2, v0), zJ, (0, v2), (0, v3), (0, x2)] [(0, iw (Int.tdiv v2 x2)), (0, v3), (2, v0), (0, v3), (2, m3 v0 10)] kd m3 (zqV kd q)))) ∧ (¬ x2 ≠ 0 → (Ev (d + 1) M_Table_findTopReplies 0 0 41 [(2, v0), zJ, (0, v2), (0, v3), (0, x2)] [(0, 0), (0, v3), (2, v0), (0, v3), (2, m3 v0 10)] kd m3 (zqV kd q)))))))))) : Ev (d + 1) M_Table_findTopReplies 0 0 4 [(2, v0), zJ, (0, v2), (0, v3), zJ] [] kd m (zqV kd q) := by
  obtain ⟨o1, h⟩ := h
  refine EvX.blk (pc' := 9) [(.iload_n 3, 0, 0), (.aload_n 0, 0, 0), (.getfield 18, 5, 2)] (by decide +kernel) ⟨g_Table_18, trivial⟩ ⟨o1, ?_⟩
  show Ev (d + 1) M_Table_findTopReplies 0 0 9 [(2, v0), zJ, (0, v2), (0, v3), zJ] [(0, m v0 2), (0, v3)] kd m (zqV kd q)
  refine EvX.icmp_ge (off := 56) (tgt := 65) (by decide +kernel) (by decide) (fun hc => ?_) (fun hc => ?_)
  · have h := h.1 hc
    exact EvX.ret (r := zJ) (by decide +kernel) rfl ⟨rfl, rfl, h⟩
  · have h := h.2 hc
    refine EvX.blk (pc' := 16) [(.aload_n 0, 0, 0), (.iload_n 3, 0, 0), (.iconst 1, 0, 0), (.iadd, 0, 0)] (by decide +kernel) trivial ?_
    show Ev (d + 1) M_Table_findTopReplies 0 0 16 [(2, v0), zJ, (0, v2), (0, v3), zJ] [(0, iw (v3 + 1)), (2, v0)] kd m (zqV kd q)
    obtain ⟨ov, h⟩ := h
    obtain ⟨q1, hq, h⟩ := h
    refine EvX.callV (c := 5) (mc := 0) (ms := 0) (as := [(0, iw (v3 + 1))]) (st := []) (by decide +kernel) l_Table_158 k_Table_topRowsFrom v_Table_topRowsFrom a_Table_topRowsFrom (by decide) (Nat.le_of_ble_eq_true rfl) rfl ov hq (fun r kd1 m3 hr => ?_)
    obtain ⟨x2, rfl, hk, hr⟩ := hr
    subst kd1
    have h := h x2 m3 hr
    show Ev (d + 1) M_Table_findTopReplies 0 0 19 [(2, v0), zJ, (0, v2), (0, v3), zJ] [(0, x2)] kd m3 (zqV kd q)
    obtain ⟨o1, h⟩ := h
    refine EvX.blk (pc' := 30) [(.istore 4, 0, 0), (.aload_n 0, 0, 0), (.getfield 44, 5, 10), (.iload_n 3, 0, 0), (.aload_n 0, 0, 0), (.iload_n 3, 0, 0), (.iload 4, 0, 0)] (by decide +kernel) ⟨g_Table_44, trivial⟩ ⟨o1, ?_⟩
    show Ev (d + 1) M_Table_findTopReplies 0 0 30 [(2, v0), zJ, (0, v2), (0, v3), (0, x2)] [(0, x2), (0, v3), (2, v0), (0, v3), (2, m3 v0 10)] kd m3 (zqV kd q)
    refine EvX.if_ne (off := 7) (tgt := 37) (by decide +kernel) (by decide) (fun hc => ?_) (fun hc => ?_)
    · have h := h.1 hc
      obtain ⟨o1, h⟩ := h
      refine EvX.blk (pc' := 41) [(.iload_n 2, 0, 0), (.iload 4, 0, 0), (.idiv, 0, 0)] (by decide +kernel) trivial ⟨o1, ?_⟩
      show Ev (d + 1) M_Table_findTopReplies 0 0 41 [(2, v0), zJ, (0, v2), (0, v3), (0, x2)] [(0, iw (Int.tdiv v2 x2)), (0, v3), (2, v0), (0, v3), (2, m3 v0 10)] kd m3 (zqV kd q)
      exact h
    · have h := h.2 hc
      refine EvX.blk (pc' := 34) [(.iconst 0, 0, 0)] (by decide +kernel) trivial ?_
      show Ev (d + 1) M_Table_findTopReplies 0 0 34 [(2, v0), zJ, (0, v2), (0, v3), (0, x2)] [(0, 0), (0, v3), (2, v0), (0, v3), (2, m3 v0 10)] kd m3 (zqV kd q)
      refine EvX.goto (off := 7) (tgt := 41) (by decide +kernel) (by decide) ?_
      exact h
set_option maxRecDepth 20000 in
set_option maxHeartbeats 1000000 in
theorem T_Table_findTopReplies_41 {d : Nat} {kd : ZK} {m : ZM} {q : ZM → Prop} {v0 v2 v3 v4 s0 s1 s2 s3 s4 : Int} (h : (zobj kd s2 5 ∧ ∃ q1, CtI d M_Table_topReplyAt [(2, s2), (0, s3), (0, s4)] kd m q1 ∧ ∀ x2 m3, q1 x2 m3 → (zIn kd s0 0 s1 ∧ ((v4 ≠ 0 → (v4 ≠ 0 ∧ (Ev (d + 1) M_Table_findTopReplies 0 0 4 [(2, v0), zJ, (0, Int.tmod v2 v4), (0, iw (v3 + 1)), zJ] [] kd (zup m3 s0 s1 x2) (zqV kd q)))) ∧ (¬ v4 ≠ 0 → (Ev (d + 1) M_Table_findTopReplies 0 0 4 [(2, v0), zJ, (0, 0), (0, iw (v3 + 1)), zJ] [] kd (zup m3 s0 s1 x2) (zqV kd q))))))) : Ev (d + 1) M_Table_findTopReplies 0 0 41 [(2, v0), zJ, (0, v2), (0, v3), (0, v4)] [(0, s4), (0, s3), (2, s2), (0, s1), (2, s0)] kd m (zqV kd q) := by
  obtain ⟨ov, h⟩ := h
  obtain ⟨q1, hq, h⟩ := h
  refine EvX.callV (c := 5) (mc := 0) (ms := 0) (as := [(0, s3), (0, s4)]) (st := [(0, s1), (2, s0)]) (by decide +kernel) l_Table_175 k_Table_topReplyAt v_Table_topReplyAt a_Table_topReplyAt (by decide) (Nat.le_of_ble_eq_true rfl) rfl ov hq (fun r kd1 m3 hr => ?_)
  obtain ⟨x2, rfl, hk, hr⟩ := hr
  subst kd1
  have h := h x2 m3 hr
  show Ev (d + 1) M_Table_findTopReplies 0 0 44 [(2, v0), zJ, (0, v2), (0, v3), (0, v4)] [(0, x2), (0, s1), (2, s0)] kd m3 (zqV kd q)
  obtain ⟨o1, h⟩ := h
  refine EvX.blk (pc' := 47) [(.iastore, 0, 0), (.iload 4, 0, 0)] (by decide +kernel) trivial ⟨o1, ?_⟩
  show Ev (d + 1) M_Table_findTopReplies 0 0 47 [(2, v0), zJ, (0, v2), (0, v3), (0, v4)] [(0, v4)] kd (zup m3 s0 s1 x2) (zqV kd q)
  refine EvX.if_ne (off := 7) (tgt := 54) (by decide +kernel) (by decide) (fun hc => ?_) (fun hc => ?_)
  · have h := h.1 hc
    obtain ⟨o1, h⟩ := h
    refine EvX.blk (pc' := 62) [(.iload_n 2, 0, 0), (.iload 4, 0, 0), (.irem, 0, 0), (.istore_n 2, 0, 0), (.iinc 3 1, 0, 0)] (by decide +kernel) trivial ⟨o1, ?_⟩
    show Ev (d + 1) M_Table_findTopReplies 0 0 62 [(2, v0), zJ, (0, Int.tmod v2 v4), (0, iw (v3 + 1)), (0, v4)] [] kd (zup m3 s0 s1 x2) (zqV kd q)
    refine EvX.goto (off := (-58)) (tgt := 4) (by decide +kernel) (by decide) ?_
    exact EvX.weak (ls2 := [(2, v0), zJ, (0, Int.tmod v2 v4), (0, iw (v3 + 1)), zJ]) (zwk_of ⟨Or.inr rfl, Or.inl rfl, Or.inr rfl, Or.inr rfl, Or.inl rfl, trivial⟩) h
  · have h := h.2 hc
    refine EvX.blk (pc' := 51) [(.iconst 0, 0, 0)] (by decide +kernel) trivial ?_
    show Ev (d + 1) M_Table_findTopReplies 0 0 51 [(2, v0), zJ, (0, v2), (0, v3), (0, v4)] [(0, 0)] kd (zup m3 s0 s1 x2) (zqV kd q)
    refine EvX.goto (off := 7) (tgt := 58) (by decide +kernel) (by decide) ?_
    refine EvX.blk (pc' := 62) [(.istore_n 2, 0, 0), (.iinc 3 1, 0, 0)] (by decide +kernel) trivial ?_
    show Ev (d + 1) M_Table_findTopReplies 0 0 62 [(2, v0), zJ, (0, 0), (0, iw (v3 + 1)), (0, v4)] [] kd (zup m3 s0 s1 x2) (zqV kd q)
    refine EvX.goto (off := (-58)) (tgt := 4) (by decide +kernel) (by decide) ?_
    exact EvX.weak (ls2 := [(2, v0), zJ, (0, 0), (0, iw (v3 + 1)), zJ]) (zwk_of ⟨Or.inr rfl, Or.inl rfl, Or.inr rfl, Or.inr rfl, Or.inl rfl, trivial⟩) h
set_option maxRecDepth 20000 in
set_option maxHeartbeats 1000000 in
theorem T_Table_topReplyAt_0 {d : Nat} {kd : ZK} {m : ZM} {q : Int → ZM → Prop} {v0 v1 v2 : Int} (h : (Ev (d + 1) M_Table_topReplyAt 0 0 5 [(2, v0), (0, v1), zJ, (0, v2), (0, 0)] [] kd m (zqI kd q))) : Ev (d + 1) M_Table_topReplyAt 0 0 0 [(2, v0), (0, v1), (0, v2), zJ, zJ] [] kd m (zqI kd q) := by
  refine EvX.blk (pc' := 5) [(.iload_n 2, 0, 0), (.istore_n 3, 0, 0), (.iconst 0, 0, 0), (.istore 4, 0, 0)] (by decide +kernel) trivial ?_
  show Ev (d + 1) M_Table_topReplyAt 0 0 5 [(2, v0), (0, v1), (0, v2), (0, v2), (0, 0)] [] kd m (zqI kd q)
  exact EvX.weak (ls2 := [(2, v0), (0, v1), zJ, (0, v2), (0, 0)]) (zwk_of ⟨Or.inr rfl, Or.inr rfl, Or.inl rfl, Or.inr rfl, Or.inr rfl, trivial⟩) h
theorem S_Table_topReplyAt {d : Nat} {kd : ZK} {m : ZM} {q : Int → ZM → Prop} {v0 v1 v2 : Int} (h : (Ev (d + 1) M_Table_topReplyAt 0 0 5 [(2, v0), (0, v1), zJ, (0, v2), (0, 0)] [] kd m (zqI kd q))) : CtI (d + 1) M_Table_topReplyAt [(2, v0), (0, v1), (0, v2)] kd m q :=
  Ct.start k_Table_topReplyAt (Nat.le_of_ble_eq_true rfl) ⟨1, Or.inr (Or.inl ⟨rfl, rfl⟩)⟩ (T_Table_topReplyAt_0 h)
set_option maxRecDepth 20000 in
set_option maxHeartbeats 1000000 in
theorem T_Table_topReplyAt_5 {d : Nat} {kd : ZK} {m : ZM} {q : Int → ZM → Prop} {v0 v1 v3 v4 : Int} (h : (zobj kd v0 5 ∧ (((m v0 3) ≤ v4 → q 0 m) ∧ (¬ (m v0 3) ≤ v4 → (zobj kd v0 5 ∧ ∃ q1, CtI d M_Table_isTopReply [(2, v0), (0, v1), (0, v4)] kd m q1 ∧ ∀ x2 m3, q1 x2 m3 → ((x2 = 0 → (Ev (d + 1) M_Table_topReplyAt 0 0 5 [(2, v0), (0, v1), zJ, (0, v3), (0, iw (v4 + 1))] [] kd m3 (zqI kd q))) ∧ (¬ x2 = 0 → ((v3 ≠ 0 → (Ev (d + 1) M_Table_topReplyAt 0 0 5 [(2, v0), (0, v1), zJ, (0, iw (v3 + (-1))), (0, iw (v4 + 1))] [] kd m3 (zqI kd q))) ∧ (¬ v3 ≠ 0 → q v4 m3))))))))) : Ev (d + 1) M_Table_topReplyAt 0 0 5 [(2, v0), (0, v1), zJ, (0, v3), (0, v4)] [] kd m (zqI kd q) := by
  obtain ⟨o1, h⟩ := h
  refine EvX.blk (pc' := 11) [(.iload 4, 0, 0), (.aload_n 0, 0, 0), (.getfield 21, 5, 3)] (by decide +kernel) ⟨g_Table_21, trivial⟩ ⟨o1, ?_⟩
  show Ev (d + 1) M_Table_topReplyAt 0 0 11 [(2, v0), (0, v1), zJ, (0, v3), (0, v4)] [(0, m v0 3), (0, v4)] kd m (zqI kd q)
  refine EvX.icmp_ge (off := 29) (tgt := 40) (by decide +kernel) (by decide) (fun hc => ?_) (fun hc => ?_)
  · have h := h.1 hc
    refine EvX.blk (pc' := 41) [(.iconst 0, 0, 0)] (by decide +kernel) trivial ?_
    show Ev (d + 1) M_Table_topReplyAt 0 0 41 [(2, v0), (0, v1), zJ, (0, v3), (0, v4)] [(0, 0)] kd m (zqI kd q)
    exact EvX.ret (r := (0, 0)) (by decide +kernel) rfl ⟨_, rfl, rfl, h⟩
  · have h := h.2 hc
    refine EvX.blk (pc' := 18) [(.aload_n 0, 0, 0), (.iload_n 1, 0, 0), (.iload 4, 0, 0)] (by decide +kernel) trivial ?_
    show Ev (d + 1) M_Table_topReplyAt 0 0 18 [(2, v0), (0, v1), zJ, (0, v3), (0, v4)] [(0, v4), (0, v1), (2, v0)] kd m (zqI kd q)
    obtain ⟨ov, h⟩ := h
    obtain ⟨q1, hq, h⟩ := h
    refine EvX.callV (c := 5) (mc := 0) (ms := 0) (as := [(0, v1), (0, v4)]) (st := []) (by decide +kernel) l_Table_168 k_Table_isTopReply v_Table_isTopReply a_Table_isTopReply (by decide) (Nat.le_of_ble_eq_true rfl) rfl ov hq (fun r kd1 m3 hr => ?_)
    obtain ⟨x2, rfl, hk, hr⟩ := hr
    subst kd1
    have h := h x2 m3 hr
    show Ev (d + 1) M_Table_topReplyAt 0 0 21 [(2, v0), (0, v1), zJ, (0, v3), (0, v4)] [(0, x2)] kd m3 (zqI kd q)
    refine EvX.if_eq (off := 13) (tgt := 34) (by decide +kernel) (by decide) (fun hc => ?_) (fun hc => ?_)
    · have h := h.1 hc
      refine EvX.blk (pc' := 37) [(.iinc 4 1, 0, 0)] (by decide +kernel) trivial ?_
      show Ev (d + 1) M_Table_topReplyAt 0 0 37 [(2, v0), (0, v1), zJ, (0, v3), (0, iw (v4 + 1))] [] kd m3 (zqI kd q)
      refine EvX.goto (off := (-32)) (tgt := 5) (by decide +kernel) (by decide) ?_
      exact h
    · have h := h.2 hc
      refine EvX.blk (pc' := 25) [(.iload_n 3, 0, 0)] (by decide +kernel) trivial ?_
      show Ev (d + 1) M_Table_topReplyAt 0 0 25 [(2, v0), (0, v1), zJ, (0, v3), (0, v4)] [(0, v3)] kd m3 (zqI kd q)
      refine EvX.if_ne (off := 6) (tgt := 31) (by decide +kernel) (by decide) (fun hc => ?_) (fun hc => ?_)
      · have h := h.1 hc
        refine EvX.blk (pc' := 37) [(.iinc 3 (-1), 0, 0), (.iinc 4 1, 0, 0)] (by decide +kernel) trivial ?_
        show Ev (d + 1) M_Table_topReplyAt 0 0 37 [(2, v0), (0, v1), zJ, (0, iw (v3 + (-1))), (0, iw (v4 + 1))] [] kd m3 (zqI kd q)
        refine EvX.goto (off := (-32)) (tgt := 5) (by decide +kernel) (by decide) ?_
        exact h
      · have h := h.2 hc
        refine EvX.blk (pc' := 30) [(.iload 4, 0, 0)] (by decide +kernel) trivial ?_
        show Ev (d + 1) M_Table_topReplyAt 0 0 30 [(2, v0), (0, v1), zJ, (0, v3), (0, v4)] [(0, v4)] kd m3 (zqI kd q)
        exact EvX.ret (r := (0, v4)) (by decide +kernel) rfl ⟨_, rfl, rfl, h⟩
set_option maxRecDepth 20000 in
set_option maxHeartbeats 1000000 in
theorem T_Table_mostAbove_0 {d : Nat} {kd : ZK} {m : ZM} {q : Int → ZM → Prop} {v0 v1 : Int} (h : (zobj kd v0 5 ∧ (zobj kd v0 5 ∧ ∃ q1, CtV d M_Table_clearFirstSums [(2, v0)] kd (zup m v0 11 v1) q1 ∧ ∀ m3, q1 m3 → (zobj kd v0 5 ∧ ∃ q4, CtV d M_Table_fillHopes [(2, v0)] kd m3 q4 ∧ ∀ m6, q4 m6 → (zobj kd v0 5 ∧ ∃ q7, CtV d M_Table_markNeedless [(2, v0)] kd m6 q7 ∧ ∀ m9, q7 m9 → (zobj kd v0 5 ∧ (((m9 v0 0) ≤ 0 → (zobj kd v0 5 ∧ q (m9 v0 11) m9)) ∧ (¬ (m9 v0 0) ≤ 0 → (zobj kd v0 5 ∧ ∃ q10, CtI d M_Table_hopeAt [(2, v0), (0, 0)] kd m9 q10 ∧ ∀ x11 m12, q10 x11 m12 → (zobj kd v0 5 ∧ ((x11 ≤ (m12 v0 11) → (zobj kd v0 5 ∧ q (m12 v0 11) m12)) ∧ (¬ x11 ≤ (m12 v0 11) → (∃ q13, CtV d M_Table_search [(2, v0), (0, 0)] kd m12 q13 ∧ ∀ m15, q13 m15 → (zobj kd v0 5 ∧ q (m15 v0 11) m15)))))))))))))) : Ev (d + 1) M_Table_mostAbove 0 0 0 [(2, v0), (0, v1)] [] kd m (zqI kd q) := by
  obtain ⟨o1, h⟩ := h
  refine EvX.blk (pc' := 6) [(.aload_n 0, 0, 0), (.iload_n 1, 0, 0), (.putfield 47, 5, 11), (.aload_n 0, 0, 0)] (by decide +kernel) ⟨⟨g_Table_47, p_Table_47⟩, trivial⟩ ⟨rfl, o1, ?_⟩
  show Ev (d + 1) M_Table_mostAbove 0 0 6 [(2, v0), (0, v1)] [(2, v0)] kd (zup m v0 11 v1) (zqI kd q)
  obtain ⟨ov, h⟩ := h
  obtain ⟨q1, hq, h⟩ := h
  refine EvX.callV (c := 5) (mc := 0) (ms := 0) (as := []) (st := []) (by decide +kernel) l_Table_108 k_Table_clearFirstSums v_Table_clearFirstSums a_Table_clearFirstSums (by decide) (Nat.le_of_ble_eq_true rfl) rfl ov hq (fun r kd1 m3 hr => ?_)
  obtain ⟨rfl, hk, hr⟩ := hr
  subst kd1
  have h := h m3 hr
  show Ev (d + 1) M_Table_mostAbove 0 0 9 [(2, v0), (0, v1)] [] kd m3 (zqI kd q)
  refine EvX.blk (pc' := 10) [(.aload_n 0, 0, 0)] (by decide +kernel) trivial ?_
  show Ev (d + 1) M_Table_mostAbove 0 0 10 [(2, v0), (0, v1)] [(2, v0)] kd m3 (zqI kd q)
  obtain ⟨ov, h⟩ := h
  obtain ⟨q4, hq, h⟩ := h
  refine EvX.callV (c := 5) (mc := 0) (ms := 0) (as := []) (st := []) (by decide +kernel) l_Table_178 k_Table_fillHopes v_Table_fillHopes a_Table_fillHopes (by decide) (Nat.le_of_ble_eq_true rfl) rfl ov hq (fun r kd1 m6 hr => ?_)
  obtain ⟨rfl, hk, hr⟩ := hr
  subst kd1
  have h := h m6 hr
  show Ev (d + 1) M_Table_mostAbove 0 0 13 [(2, v0), (0, v1)] [] kd m6 (zqI kd q)
  refine EvX.blk (pc' := 14) [(.aload_n 0, 0, 0)] (by decide +kernel) trivial ?_
  show Ev (d + 1) M_Table_mostAbove 0 0 14 [(2, v0), (0, v1)] [(2, v0)] kd m6 (zqI kd q)
  obtain ⟨ov, h⟩ := h
  obtain ⟨q7, hq, h⟩ := h
  refine EvX.callV (c := 5) (mc := 0) (ms := 0) (as := []) (st := []) (by decide +kernel) l_Table_181 k_Table_markNeedless v_Table_markNeedless a_Table_markNeedless (by decide) (Nat.le_of_ble_eq_true rfl) rfl ov hq (fun r kd1 m9 hr => ?_)
  obtain ⟨rfl, hk, hr⟩ := hr
  subst kd1
  have h := h m9 hr
  show Ev (d + 1) M_Table_mostAbove 0 0 17 [(2, v0), (0, v1)] [] kd m9 (zqI kd q)
  obtain ⟨o1, h⟩ := h
  refine EvX.blk (pc' := 21) [(.aload_n 0, 0, 0), (.getfield 9, 5, 0)] (by decide +kernel) ⟨g_Table_9, trivial⟩ ⟨o1, ?_⟩
  show Ev (d + 1) M_Table_mostAbove 0 0 21 [(2, v0), (0, v1)] [(0, m9 v0 0)] kd m9 (zqI kd q)
  refine EvX.if_le (off := 20) (tgt := 41) (by decide +kernel) (by decide) (fun hc => ?_) (fun hc => ?_)
  · have h := h.1 hc
    obtain ⟨o1, h⟩ := h
    refine EvX.blk (pc' := 45) [(.aload_n 0, 0, 0), (.getfield 47, 5, 11)] (by decide +kernel) ⟨g_Table_47, trivial⟩ ⟨o1, ?_⟩
    show Ev (d + 1) M_Table_mostAbove 0 0 45 [(2, v0), (0, v1)] [(0, m9 v0 11)] kd m9 (zqI kd q)
    exact EvX.ret (r := (0, m9 v0 11)) (by decide +kernel) rfl ⟨_, rfl, rfl, h⟩
  · have h := h.2 hc
    refine EvX.blk (pc' := 26) [(.aload_n 0, 0, 0), (.iconst 0, 0, 0)] (by decide +kernel) trivial ?_
    show Ev (d + 1) M_Table_mostAbove 0 0 26 [(2, v0), (0, v1)] [(0, 0), (2, v0)] kd m9 (zqI kd q)
    obtain ⟨ov, h⟩ := h
    obtain ⟨q10, hq, h⟩ := h
    refine EvX.callV (c := 5) (mc := 0) (ms := 0) (as := [(0, 0)]) (st := []) (by decide +kernel) l_Table_184 k_Table_hopeAt v_Table_hopeAt a_Table_hopeAt (by decide) (Nat.le_of_ble_eq_true rfl) rfl ov hq (fun r kd1 m12 hr => ?_)
    obtain ⟨x11, rfl, hk, hr⟩ := hr
    subst kd1
    have h := h x11 m12 hr
    show Ev (d + 1) M_Table_mostAbove 0 0 29 [(2, v0), (0, v1)] [(0, x11)] kd m12 (zqI kd q)
    obtain ⟨o1, h⟩ := h
    refine EvX.blk (pc' := 33) [(.aload_n 0, 0, 0), (.getfield 47, 5, 11)] (by decide +kernel) ⟨g_Table_47, trivial⟩ ⟨o1, ?_⟩
    show Ev (d + 1) M_Table_mostAbove 0 0 33 [(2, v0), (0, v1)] [(0, m12 v0 11), (0, x11)] kd m12 (zqI kd q)
    refine EvX.icmp_le (off := 8) (tgt := 41) (by decide +kernel) (by decide) (fun hc => ?_) (fun hc => ?_)
    · have h := h.1 hc
      obtain ⟨o1, h⟩ := h
      refine EvX.blk (pc' := 45) [(.aload_n 0, 0, 0), (.getfield 47, 5, 11)] (by decide +kernel) ⟨g_Table_47, trivial⟩ ⟨o1, ?_⟩
      show Ev (d + 1) M_Table_mostAbove 0 0 45 [(2, v0), (0, v1)] [(0, m12 v0 11)] kd m12 (zqI kd q)
      exact EvX.ret (r := (0, m12 v0 11)) (by decide +kernel) rfl ⟨_, rfl, rfl, h⟩
    · have h := h.2 hc
      refine EvX.blk (pc' := 38) [(.aload_n 0, 0, 0), (.iconst 0, 0, 0)] (by decide +kernel) trivial ?_
      show Ev (d + 1) M_Table_mostAbove 0 0 38 [(2, v0), (0, v1)] [(0, 0), (2, v0)] kd m12 (zqI kd q)
      obtain ⟨q13, hq, h⟩ := h
      refine EvX.callS (mc := 0) (ms := 0) (as := [(2, v0), (0, 0)]) (st := []) (by decide +kernel) l_Table_187 k_Table_search s_Table_search a_Table_search (by decide) (Nat.le_of_ble_eq_true rfl) hq (fun r kd1 m15 hr => ?_)
      obtain ⟨rfl, hk, hr⟩ := hr
      subst kd1
      have h := h m15 hr
      show Ev (d + 1) M_Table_mostAbove 0 0 41 [(2, v0), (0, v1)] [] kd m15 (zqI kd q)
      obtain ⟨o1, h⟩ := h
      refine EvX.blk (pc' := 45) [(.aload_n 0, 0, 0), (.getfield 47, 5, 11)] (by decide +kernel) ⟨g_Table_47, trivial⟩ ⟨o1, ?_⟩
      show Ev (d + 1) M_Table_mostAbove 0 0 45 [(2, v0), (0, v1)] [(0, m15 v0 11)] kd m15 (zqI kd q)
      exact EvX.ret (r := (0, m15 v0 11)) (by decide +kernel) rfl ⟨_, rfl, rfl, h⟩
theorem S_Table_mostAbove {d : Nat} {kd : ZK} {m : ZM} {q : Int → ZM → Prop} {v0 v1 : Int} (h : (zobj kd v0 5 ∧ (zobj kd v0 5 ∧ ∃ q1, CtV d M_Table_clearFirstSums [(2, v0)] kd (zup m v0 11 v1) q1 ∧ ∀ m3, q1 m3 → (zobj kd v0 5 ∧ ∃ q4, CtV d M_Table_fillHopes [(2, v0)] kd m3 q4 ∧ ∀ m6, q4 m6 → (zobj kd v0 5 ∧ ∃ q7, CtV d M_Table_markNeedless [(2, v0)] kd m6 q7 ∧ ∀ m9, q7 m9 → (zobj kd v0 5 ∧ (((m9 v0 0) ≤ 0 → (zobj kd v0 5 ∧ q (m9 v0 11) m9)) ∧ (¬ (m9 v0 0) ≤ 0 → (zobj kd v0 5 ∧ ∃ q10, CtI d M_Table_hopeAt [(2, v0), (0, 0)] kd m9 q10 ∧ ∀ x11 m12, q10 x11 m12 → (zobj kd v0 5 ∧ ((x11 ≤ (m12 v0 11) → (zobj kd v0 5 ∧ q (m12 v0 11) m12)) ∧ (¬ x11 ≤ (m12 v0 11) → (∃ q13, CtV d M_Table_search [(2, v0), (0, 0)] kd m12 q13 ∧ ∀ m15, q13 m15 → (zobj kd v0 5 ∧ q (m15 v0 11) m15)))))))))))))) : CtI (d + 1) M_Table_mostAbove [(2, v0), (0, v1)] kd m q :=
  Ct.start k_Table_mostAbove (Nat.le_of_ble_eq_true rfl) ⟨1, Or.inr (Or.inl ⟨rfl, rfl⟩)⟩ (T_Table_mostAbove_0 h)
set_option maxRecDepth 20000 in
set_option maxHeartbeats 1000000 in
theorem T_Table_search_0 {d : Nat} {kd : ZK} {m : ZM} {q : ZM → Prop} {v0 v1 : Int} (h : (zobj kd v0 5 ∧ (((m v0 0) ≤ v1 → q m) ∧ (¬ (m v0 0) ≤ v1 → ((v1 < 16 → (Ev (d + 1) M_Table_search 0 0 17 [(2, v0), (0, v1), (0, 0), zJ] [] kd m (zqV kd q))) ∧ (¬ v1 < 16 → q m)))))) : Ev (d + 1) M_Table_search 0 0 0 [(2, v0), (0, v1), zJ, zJ] [] kd m (zqV kd q) := by
  obtain ⟨o1, h⟩ := h
  refine EvX.blk (pc' := 5) [(.iload_n 1, 0, 0), (.aload_n 0, 0, 0), (.getfield 9, 5, 0)] (by decide +kernel) ⟨g_Table_9, trivial⟩ ⟨o1, ?_⟩
  show Ev (d + 1) M_Table_search 0 0 5 [(2, v0), (0, v1), zJ, zJ] [(0, m v0 0), (0, v1)] kd m (zqV kd q)
  refine EvX.icmp_ge (off := 9) (tgt := 14) (by decide +kernel) (by decide) (fun hc => ?_) (fun hc => ?_)
  · have h := h.1 hc
    exact EvX.ret (r := zJ) (by decide +kernel) rfl ⟨rfl, rfl, h⟩
  · have h := h.2 hc
    refine EvX.blk (pc' := 11) [(.iload_n 1, 0, 0), (.bipush 16, 0, 0)] (by decide +kernel) trivial ?_
    show Ev (d + 1) M_Table_search 0 0 11 [(2, v0), (0, v1), zJ, zJ] [(0, 16), (0, v1)] kd m (zqV kd q)
    refine EvX.icmp_lt (off := 4) (tgt := 15) (by decide +kernel) (by decide) (fun hc => ?_) (fun hc => ?_)
    · have h := h.1 hc
      refine EvX.blk (pc' := 17) [(.iconst 0, 0, 0), (.istore_n 2, 0, 0)] (by decide +kernel) trivial ?_
      show Ev (d + 1) M_Table_search 0 0 17 [(2, v0), (0, v1), (0, 0), zJ] [] kd m (zqV kd q)
      exact h
    · have h := h.2 hc
      exact EvX.ret (r := zJ) (by decide +kernel) rfl ⟨rfl, rfl, h⟩
theorem S_Table_search {d : Nat} {kd : ZK} {m : ZM} {q : ZM → Prop} {v0 v1 : Int} (h : (zobj kd v0 5 ∧ (((m v0 0) ≤ v1 → q m) ∧ (¬ (m v0 0) ≤ v1 → ((v1 < 16 → (Ev (d + 1) M_Table_search 0 0 17 [(2, v0), (0, v1), (0, 0), zJ] [] kd m (zqV kd q))) ∧ (¬ v1 < 16 → q m)))))) : CtV (d + 1) M_Table_search [(2, v0), (0, v1)] kd m q :=
  Ct.start k_Table_search (Nat.le_of_ble_eq_true rfl) ⟨0, Or.inl ⟨rfl, rfl⟩⟩ (T_Table_search_0 h)
set_option maxRecDepth 20000 in
set_option maxHeartbeats 1000000 in
theorem T_Table_search_17 {d : Nat} {kd : ZK} {m : ZM} {q : ZM → Prop} {v0 v1 v2 : Int} (h : (zobj kd v0 5 ∧ (((m v0 1) ≤ v2 → q m) ∧ (¬ (m v0 1) ≤ v2 → (zobj kd v0 5 ∧ zobj kd v0 5 ∧ zIn kd (m v0 8) 1 (iw ((iw (v1 * (m v0 1))) + v2)) ∧ (((m (m v0 8) (iw ((iw (v1 * (m v0 1))) + v2))) ≠ 0 → (Ev (d + 1) M_Table_search 0 0 17 [(2, v0), (0, v1), (0, iw (v2 + 1)), zJ] [] kd m (zqV kd q))) ∧ (¬ (m (m v0 8) (iw ((iw (v1 * (m v0 1))) + v2))) ≠ 0 → (zobj kd v0 5 ∧ ∃ q1, CtV d M_Table_addLine [(2, v0), (0, v1), (0, v2)] kd m q1 ∧ ∀ m3, q1 m3 → (zobj kd v0 5 ∧ ∃ q4, CtI d M_Table_hopeAt [(2, v0), (0, iw (v1 + 1))] kd m3 q4 ∧ ∀ x5 m6, q4 x5 m6 → (zobj kd v0 5 ∧ ((x5 ≤ (m6 v0 11) → (Ev (d + 1) M_Table_search 0 0 17 [(2, v0), (0, v1), (0, iw (v2 + 1)), zJ] [] kd m6 (zqV kd q))) ∧ (¬ x5 ≤ (m6 v0 11) → (zobj kd v0 5 ∧ (((iw (v1 + 1)) ≠ (m6 v0 0) → (∃ q7, CtV d M_Table_search [(2, v0), (0, iw (v1 + 1))] kd m6 q7 ∧ ∀ m9, q7 m9 → (Ev (d + 1) M_Table_search 0 0 17 [(2, v0), (0, v1), (0, iw (v2 + 1)), zJ] [] kd m9 (zqV kd q)))) ∧ (¬ (iw (v1 + 1)) ≠ (m6 v0 0) → (zobj kd v0 5 ∧ (Ev (d + 1) M_Table_search 0 0 17 [(2, v0), (0, v1), (0, iw (v2 + 1)), zJ] [] kd (zup m6 v0 11 x5) (zqV kd q)))))))))))))))))) : Ev (d + 1) M_Table_search 0 0 17 [(2, v0), (0, v1), (0, v2), zJ] [] kd m (zqV kd q) := by
  obtain ⟨o1, h⟩ := h
  refine EvX.blk (pc' := 22) [(.iload_n 2, 0, 0), (.aload_n 0, 0, 0), (.getfield 15, 5, 1)] (by decide +kernel) ⟨g_Table_15, trivial⟩ ⟨o1, ?_⟩
  show Ev (d + 1) M_Table_search 0 0 22 [(2, v0), (0, v1), (0, v2), zJ] [(0, m v0 1), (0, v2)] kd m (zqV kd q)
  refine EvX.icmp_ge (off := 72) (tgt := 94) (by decide +kernel) (by decide) (fun hc => ?_) (fun hc => ?_)
  · have h := h.1 hc
    exact EvX.ret (r := zJ) (by decide +kernel) rfl ⟨rfl, rfl, h⟩
  · have h := h.2 hc
    obtain ⟨o1, o2, o3, h⟩ := h
    refine EvX.blk (pc' := 38) [(.aload_n 0, 0, 0), (.getfield 37, 5, 8), (.iload_n 1, 0, 0), (.aload_n 0, 0, 0), (.getfield 15, 5, 1), (.imul, 0, 0), (.iload_n 2, 0, 0), (.iadd, 0, 0), (.baload, 1, 0)] (by decide +kernel) ⟨g_Table_37, g_Table_15, trivial⟩ ⟨o1, o2, Or.inl rfl, o3, ?_⟩
    show Ev (d + 1) M_Table_search 0 0 38 [(2, v0), (0, v1), (0, v2), zJ] [(0, m (m v0 8) (iw ((iw (v1 * (m v0 1))) + v2)))] kd m (zqV kd q)
    refine EvX.if_ne (off := 50) (tgt := 88) (by decide +kernel) (by decide) (fun hc => ?_) (fun hc => ?_)
    · have h := h.1 hc
      refine EvX.blk (pc' := 91) [(.iinc 2 1, 0, 0)] (by decide +kernel) trivial ?_
      show Ev (d + 1) M_Table_search 0 0 91 [(2, v0), (0, v1), (0, iw (v2 + 1)), zJ] [] kd m (zqV kd q)
      refine EvX.goto (off := (-74)) (tgt := 17) (by decide +kernel) (by decide) ?_
      exact h
    · have h := h.2 hc
      refine EvX.blk (pc' := 44) [(.aload_n 0, 0, 0), (.iload_n 1, 0, 0), (.iload_n 2, 0, 0)] (by decide +kernel) trivial ?_
      show Ev (d + 1) M_Table_search 0 0 44 [(2, v0), (0, v1), (0, v2), zJ] [(0, v2), (0, v1), (2, v0)] kd m (zqV kd q)
      obtain ⟨ov, h⟩ := h
      obtain ⟨q1, hq, h⟩ := h
      refine EvX.callV (c := 5) (mc := 0) (ms := 0) (as := [(0, v1), (0, v2)]) (st := []) (by decide +kernel) l_Table_115 k_Table_addLine v_Table_addLine a_Table_addLine (by decide) (Nat.le_of_ble_eq_true rfl) rfl ov hq (fun r kd1 m3 hr => ?_)
      obtain ⟨rfl, hk, hr⟩ := hr
      subst kd1
      have h := h m3 hr
      show Ev (d + 1) M_Table_search 0 0 47 [(2, v0), (0, v1), (0, v2), zJ] [] kd m3 (zqV kd q)
      refine EvX.blk (pc' := 51) [(.aload_n 0, 0, 0), (.iload_n 1, 0, 0), (.iconst 1, 0, 0), (.iadd, 0, 0)] (by decide +kernel) trivial ?_
      show Ev (d + 1) M_Table_search 0 0 51 [(2, v0), (0, v1), (0, v2), zJ] [(0, iw (v1 + 1)), (2, v0)] kd m3 (zqV kd q)
      obtain ⟨ov, h⟩ := h
      obtain ⟨q4, hq, h⟩ := h
      refine EvX.callV (c := 5) (mc := 0) (ms := 0) (as := [(0, iw (v1 + 1))]) (st := []) (by decide +kernel) l_Table_184 k_Table_hopeAt v_Table_hopeAt a_Table_hopeAt (by decide) (Nat.le_of_ble_eq_true rfl) rfl ov hq (fun r kd1 m6 hr => ?_)
      obtain ⟨x5, rfl, hk, hr⟩ := hr
      subst kd1
      have h := h x5 m6 hr
      show Ev (d + 1) M_Table_search 0 0 54 [(2, v0), (0, v1), (0, v2), zJ] [(0, x5)] kd m6 (zqV kd q)
      obtain ⟨o1, h⟩ := h
      refine EvX.blk (pc' := 60) [(.istore_n 3, 0, 0), (.iload_n 3, 0, 0), (.aload_n 0, 0, 0), (.getfield 47, 5, 11)] (by decide +kernel) ⟨g_Table_47, trivial⟩ ⟨o1, ?_⟩
      show Ev (d + 1) M_Table_search 0 0 60 [(2, v0), (0, v1), (0, v2), (0, x5)] [(0, m6 v0 11), (0, x5)] kd m6 (zqV kd q)
      refine EvX.icmp_le (off := 28) (tgt := 88) (by decide +kernel) (by decide) (fun hc => ?_) (fun hc => ?_)
      · have h := h.1 hc
        refine EvX.blk (pc' := 91) [(.iinc 2 1, 0, 0)] (by decide +kernel) trivial ?_
        show Ev (d + 1) M_Table_search 0 0 91 [(2, v0), (0, v1), (0, iw (v2 + 1)), (0, x5)] [] kd m6 (zqV kd q)
        refine EvX.goto (off := (-74)) (tgt := 17) (by decide +kernel) (by decide) ?_
        exact EvX.weak (ls2 := [(2, v0), (0, v1), (0, iw (v2 + 1)), zJ]) (zwk_of ⟨Or.inr rfl, Or.inr rfl, Or.inr rfl, Or.inl rfl, trivial⟩) h
      · have h := h.2 hc
        obtain ⟨o1, h⟩ := h
        refine EvX.blk (pc' := 70) [(.iload_n 1, 0, 0), (.iconst 1, 0, 0), (.iadd, 0, 0), (.aload_n 0, 0, 0), (.getfield 9, 5, 0)] (by decide +kernel) ⟨g_Table_9, trivial⟩ ⟨o1, ?_⟩
        show Ev (d + 1) M_Table_search 0 0 70 [(2, v0), (0, v1), (0, v2), (0, x5)] [(0, m6 v0 0), (0, iw (v1 + 1))] kd m6 (zqV kd q)
        refine EvX.icmp_ne (off := 11) (tgt := 81) (by decide +kernel) (by decide) (fun hc => ?_) (fun hc => ?_)
        · have h := h.1 hc
          refine EvX.blk (pc' := 85) [(.aload_n 0, 0, 0), (.iload_n 1, 0, 0), (.iconst 1, 0, 0), (.iadd, 0, 0)] (by decide +kernel) trivial ?_
          show Ev (d + 1) M_Table_search 0 0 85 [(2, v0), (0, v1), (0, v2), (0, x5)] [(0, iw (v1 + 1)), (2, v0)] kd m6 (zqV kd q)
          obtain ⟨q7, hq, h⟩ := h
          refine EvX.callS (mc := 0) (ms := 0) (as := [(2, v0), (0, iw (v1 + 1))]) (st := []) (by decide +kernel) l_Table_187 k_Table_search s_Table_search a_Table_search (by decide) (Nat.le_of_ble_eq_true rfl) hq (fun r kd1 m9 hr => ?_)
          obtain ⟨rfl, hk, hr⟩ := hr
          subst kd1
          have h := h m9 hr
          show Ev (d + 1) M_Table_search 0 0 88 [(2, v0), (0, v1), (0, v2), (0, x5)] [] kd m9 (zqV kd q)
          refine EvX.blk (pc' := 91) [(.iinc 2 1, 0, 0)] (by decide +kernel) trivial ?_
          show Ev (d + 1) M_Table_search 0 0 91 [(2, v0), (0, v1), (0, iw (v2 + 1)), (0, x5)] [] kd m9 (zqV kd q)
          refine EvX.goto (off := (-74)) (tgt := 17) (by decide +kernel) (by decide) ?_
          exact EvX.weak (ls2 := [(2, v0), (0, v1), (0, iw (v2 + 1)), zJ]) (zwk_of ⟨Or.inr rfl, Or.inr rfl, Or.inr rfl, Or.inl rfl, trivial⟩) h
        · have h := h.2 hc
          obtain ⟨o1, h⟩ := h
          refine EvX.blk (pc' := 78) [(.aload_n 0, 0, 0), (.iload_n 3, 0, 0), (.putfield 47, 5, 11)] (by decide +kernel) ⟨⟨g_Table_47, p_Table_47⟩, trivial⟩ ⟨rfl, o1, ?_⟩
          show Ev (d + 1) M_Table_search 0 0 78 [(2, v0), (0, v1), (0, v2), (0, x5)] [] kd (zup m6 v0 11 x5) (zqV kd q)
          refine EvX.goto (off := 10) (tgt := 88) (by decide +kernel) (by decide) ?_
          refine EvX.blk (pc' := 91) [(.iinc 2 1, 0, 0)] (by decide +kernel) trivial ?_
          show Ev (d + 1) M_Table_search 0 0 91 [(2, v0), (0, v1), (0, iw (v2 + 1)), (0, x5)] [] kd (zup m6 v0 11 x5) (zqV kd q)
          refine EvX.goto (off := (-74)) (tgt := 17) (by decide +kernel) (by decide) ?_
          exact EvX.weak (ls2 := [(2, v0), (0, v1), (0, iw (v2 + 1)), zJ]) (zwk_of ⟨Or.inr rfl, Or.inr rfl, Or.inr rfl, Or.inl rfl, trivial⟩) h
set_option maxRecDepth 20000 in
set_option maxHeartbeats 1000000 in
theorem T_Table_markNeedless_0 {d : Nat} {kd : ZK} {m : ZM} {q : ZM → Prop} {v0 : Int} (h : (Ev (d + 1) M_Table_markNeedless 0 0 2 [(2, v0), (0, 0), zJ, zJ] [] kd m (zqV kd q))) : Ev (d + 1) M_Table_markNeedless 0 0 0 [(2, v0), zJ, zJ, zJ] [] kd m (zqV kd q) := by
  refine EvX.blk (pc' := 2) [(.iconst 0, 0, 0), (.istore_n 1, 0, 0)] (by decide +kernel) trivial ?_
  show Ev (d + 1) M_Table_markNeedless 0 0 2 [(2, v0), (0, 0), zJ, zJ] [] kd m (zqV kd q)
  exact h
theorem S_Table_markNeedless {d : Nat} {kd : ZK} {m : ZM} {q : ZM → Prop} {v0 : Int} (h : (Ev (d + 1) M_Table_markNeedless 0 0 2 [(2, v0), (0, 0), zJ, zJ] [] kd m (zqV kd q))) : CtV (d + 1) M_Table_markNeedless [(2, v0)] kd m q :=
  Ct.start k_Table_markNeedless (Nat.le_of_ble_eq_true rfl) ⟨0, Or.inl ⟨rfl, rfl⟩⟩ (T_Table_markNeedless_0 h)
set_option maxRecDepth 20000 in
set_option maxHeartbeats 1000000 in
theorem T_Table_markNeedless_2 {d : Nat} {kd : ZK} {m : ZM} {q : ZM → Prop} {v0 v1 : Int} (h : (zobj kd v0 5 ∧ (((m v0 0) ≤ v1 → q m) ∧ (¬ (m v0 0) ≤ v1 → (zobj kd v0 5 ∧ (Ev (d + 1) M_Table_markNeedless 0 0 19 [(2, v0), (0, v1), (0, iw (v1 * (m v0 1))), (0, iw (v1 * (m v0 1)))] [] kd m (zqV kd q))))))) : Ev (d + 1) M_Table_markNeedless 0 0 2 [(2, v0), (0, v1), zJ, zJ] [] kd m (zqV kd q) := by
  obtain ⟨o1, h⟩ := h
  refine EvX.blk (pc' := 7) [(.iload_n 1, 0, 0), (.aload_n 0, 0, 0), (.getfield 9, 5, 0)] (by decide +kernel) ⟨g_Table_9, trivial⟩ ⟨o1, ?_⟩
  show Ev (d + 1) M_Table_markNeedless 0 0 7 [(2, v0), (0, v1), zJ, zJ] [(0, m v0 0), (0, v1)] kd m (zqV kd q)
  refine EvX.icmp_ge (off := 73) (tgt := 80) (by decide +kernel) (by decide) (fun hc => ?_) (fun hc => ?_)
  · have h := h.1 hc
    exact EvX.ret (r := zJ) (by decide +kernel) rfl ⟨rfl, rfl, h⟩
  · have h := h.2 hc
    obtain ⟨o1, h⟩ := h
    refine EvX.blk (pc' := 19) [(.iload_n 1, 0, 0), (.aload_n 0, 0, 0), (.getfield 15, 5, 1), (.imul, 0, 0), (.istore_n 2, 0, 0), (.iload_n 2, 0, 0), (.istore_n 3, 0, 0)] (by decide +kernel) ⟨g_Table_15, trivial⟩ ⟨o1, ?_⟩
    show Ev (d + 1) M_Table_markNeedless 0 0 19 [(2, v0), (0, v1), (0, iw (v1 * (m v0 1))), (0, iw (v1 * (m v0 1)))] [] kd m (zqV kd q)
    exact h
set_option maxRecDepth 20000 in
set_option maxHeartbeats 1000000 in
theorem T_Table_markNeedless_19 {d : Nat} {kd : ZK} {m : ZM} {q : ZM → Prop} {v0 v1 v2 v3 : Int} (h : (zobj kd v0 5 ∧ (((iw (v2 + (m v0 1))) ≤ v3 → (zobj kd v0 5 ∧ (Ev (d + 1) M_Table_markNeedless 0 0 51 [(2, v0), (0, v1), (0, v2), (0, iw ((iw (v2 + (m v0 1))) - 1))] [] kd m (zqV kd q)))) ∧ (¬ (iw (v2 + (m v0 1))) ≤ v3 → (zobj kd v0 5 ∧ zIn kd (m v0 8) 1 v3 ∧ (Ev (d + 1) M_Table_markNeedless 0 0 19 [(2, v0), (0, v1), (0, v2), (0, iw (v3 + 1))] [] kd (zup m (m v0 8) v3 0) (zqV kd q))))))) : Ev (d + 1) M_Table_markNeedless 0 0 19 [(2, v0), (0, v1), (0, v2), (0, v3)] [] kd m (zqV kd q) := by
  obtain ⟨o1, h⟩ := h
  refine EvX.blk (pc' := 26) [(.iload_n 3, 0, 0), (.iload_n 2, 0, 0), (.aload_n 0, 0, 0), (.getfield 15, 5, 1), (.iadd, 0, 0)] (by decide +kernel) ⟨g_Table_15, trivial⟩ ⟨o1, ?_⟩
  show Ev (d + 1) M_Table_markNeedless 0 0 26 [(2, v0), (0, v1), (0, v2), (0, v3)] [(0, iw (v2 + (m v0 1))), (0, v3)] kd m (zqV kd q)
  refine EvX.icmp_ge (off := 16) (tgt := 42) (by decide +kernel) (by decide) (fun hc => ?_) (fun hc => ?_)
  · have h := h.1 hc
    obtain ⟨o1, h⟩ := h
    refine EvX.blk (pc' := 51) [(.iload_n 2, 0, 0), (.aload_n 0, 0, 0), (.getfield 15, 5, 1), (.iadd, 0, 0), (.iconst 1, 0, 0), (.isub, 0, 0), (.istore_n 3, 0, 0)] (by decide +kernel) ⟨g_Table_15, trivial⟩ ⟨o1, ?_⟩
    show Ev (d + 1) M_Table_markNeedless 0 0 51 [(2, v0), (0, v1), (0, v2), (0, iw ((iw (v2 + (m v0 1))) - 1))] [] kd m (zqV kd q)
    exact h
  · have h := h.2 hc
    obtain ⟨o1, o2, h⟩ := h
    refine EvX.blk (pc' := 39) [(.aload_n 0, 0, 0), (.getfield 37, 5, 8), (.iload_n 3, 0, 0), (.iconst 0, 0, 0), (.bastore, 1, 0), (.iinc 3 1, 0, 0)] (by decide +kernel) ⟨g_Table_37, trivial⟩ ⟨o1, Or.inl ⟨rfl, by decide, by decide⟩, o2, ?_⟩
    show Ev (d + 1) M_Table_markNeedless 0 0 39 [(2, v0), (0, v1), (0, v2), (0, iw (v3 + 1))] [] kd (zup m (m v0 8) v3 0) (zqV kd q)
    refine EvX.goto (off := (-20)) (tgt := 19) (by decide +kernel) (by decide) ?_
    exact h
set_option maxRecDepth 20000 in
set_option maxHeartbeats 1000000 in
theorem T_Table_markNeedless_51 {d : Nat} {kd : ZK} {m : ZM} {q : ZM → Prop} {v0 v1 v2 v3 : Int} (h : ((v3 < v2 → (Ev (d + 1) M_Table_markNeedless 0 0 2 [(2, v0), (0, iw (v1 + 1)), zJ, zJ] [] kd m (zqV kd q))) ∧ (¬ v3 < v2 → (zobj kd v0 5 ∧ (zobj kd v0 5 ∧ ∃ q1, CtI d M_Table_isCovered [(2, v0), (0, v3), (0, v2)] kd m q1 ∧ ∀ x2 m3, q1 x2 m3 → ((0 ≤ x2 ∧ x2 ≤ 1) ∧ zIn kd (m v0 8) 1 v3 ∧ (Ev (d + 1) M_Table_markNeedless 0 0 51 [(2, v0), (0, v1), (0, v2), (0, iw (v3 + (-1)))] [] kd (zup m3 (m v0 8) v3 x2) (zqV kd q)))))))) : Ev (d + 1) M_Table_markNeedless 0 0 51 [(2, v0), (0, v1), (0, v2), (0, v3)] [] kd m (zqV kd q) := by
  refine EvX.blk (pc' := 53) [(.iload_n 3, 0, 0), (.iload_n 2, 0, 0)] (by decide +kernel) trivial ?_
  show Ev (d + 1) M_Table_markNeedless 0 0 53 [(2, v0), (0, v1), (0, v2), (0, v3)] [(0, v2), (0, v3)] kd m (zqV kd q)
  refine EvX.icmp_lt (off := 21) (tgt := 74) (by decide +kernel) (by decide) (fun hc => ?_) (fun hc => ?_)
  · have h := h.1 hc
    refine EvX.blk (pc' := 77) [(.iinc 1 1, 0, 0)] (by decide +kernel) trivial ?_
    show Ev (d + 1) M_Table_markNeedless 0 0 77 [(2, v0), (0, iw (v1 + 1)), (0, v2), (0, v3)] [] kd m (zqV kd q)
    refine EvX.goto (off := (-75)) (tgt := 2) (by decide +kernel) (by decide) ?_
    exact EvX.weak (ls2 := [(2, v0), (0, iw (v1 + 1)), zJ, zJ]) (zwk_of ⟨Or.inr rfl, Or.inr rfl, Or.inl rfl, Or.inl rfl, trivial⟩) h
  · have h := h.2 hc
    obtain ⟨o1, h⟩ := h
    refine EvX.blk (pc' := 64) [(.aload_n 0, 0, 0), (.getfield 37, 5, 8), (.iload_n 3, 0, 0), (.aload_n 0, 0, 0), (.iload_n 3, 0, 0), (.iload_n 2, 0, 0)] (by decide +kernel) ⟨g_Table_37, trivial⟩ ⟨o1, ?_⟩
    show Ev (d + 1) M_Table_markNeedless 0 0 64 [(2, v0), (0, v1), (0, v2), (0, v3)] [(0, v2), (0, v3), (2, v0), (0, v3), (2, m v0 8)] kd m (zqV kd q)
    obtain ⟨ov, h⟩ := h
    obtain ⟨q1, hq, h⟩ := h
    refine EvX.callV (c := 5) (mc := 0) (ms := 0) (as := [(0, v3), (0, v2)]) (st := [(0, v3), (2, m v0 8)]) (by decide +kernel) l_Table_191 k_Table_isCovered v_Table_isCovered a_Table_isCovered (by decide) (Nat.le_of_ble_eq_true rfl) rfl ov hq (fun r kd1 m3 hr => ?_)
    obtain ⟨x2, rfl, hk, hr⟩ := hr
    subst kd1
    have h := h x2 m3 hr
    show Ev (d + 1) M_Table_markNeedless 0 0 67 [(2, v0), (0, v1), (0, v2), (0, v3)] [(0, x2), (0, v3), (2, m v0 8)] kd m3 (zqV kd q)
    obtain ⟨o1, o2, h⟩ := h
    refine EvX.blk (pc' := 71) [(.bastore, 1, 0), (.iinc 3 (-1), 0, 0)] (by decide +kernel) trivial ⟨Or.inl ⟨rfl, o1⟩, o2, ?_⟩
    show Ev (d + 1) M_Table_markNeedless 0 0 71 [(2, v0), (0, v1), (0, v2), (0, iw (v3 + (-1)))] [] kd (zup m3 (m v0 8) v3 x2) (zqV kd q)
    refine EvX.goto (off := (-20)) (tgt := 51) (by decide +kernel) (by decide) ?_
    exact h
set_option maxRecDepth 20000 in
set_option maxHeartbeats 1000000 in
theorem T_Table_isCovered_0 {d : Nat} {kd : ZK} {m : ZM} {q : Int → ZM → Prop} {v0 v1 v2 : Int} (h : (Ev (d + 1) M_Table_isCovered 0 0 2 [(2, v0), (0, v1), (0, v2), (0, v2)] [] kd m (zqI kd q))) : Ev (d + 1) M_Table_isCovered 0 0 0 [(2, v0), (0, v1), (0, v2), zJ] [] kd m (zqI kd q) := by
  refine EvX.blk (pc' := 2) [(.iload_n 2, 0, 0), (.istore_n 3, 0, 0)] (by decide +kernel) trivial ?_
  show Ev (d + 1) M_Table_isCovered 0 0 2 [(2, v0), (0, v1), (0, v2), (0, v2)] [] kd m (zqI kd q)
  exact h
theorem S_Table_isCovered {d : Nat} {kd : ZK} {m : ZM} {q : Int → ZM → Prop} {v0 v1 v2 : Int} (h : (Ev (d + 1) M_Table_isCovered 0 0 2 [(2, v0), (0, v1), (0, v2), (0, v2)] [] kd m (zqI kd q))) : CtI (d + 1) M_Table_isCovered [(2, v0), (0, v1), (0, v2)] kd m q :=
  Ct.start k_Table_isCovered (Nat.le_of_ble_eq_true rfl) ⟨2, Or.inr (Or.inr (Or.inl ⟨rfl, rfl⟩))⟩ (T_Table_isCovered_0 h)
set_option maxRecDepth 20000 in
set_option maxHeartbeats 1000000 in
theorem T_Table_isCovered_2 {d : Nat} {kd : ZK} {m : ZM} {q : Int → ZM → Prop} {v0 v1 v2 v3 : Int} (h : (zobj kd v0 5 ∧ (((iw (v2 + (m v0 1))) ≤ v3 → q 0 m) ∧ (¬ (iw (v2 + (m v0 1))) ≤ v3 → ((v3 = v1 → (Ev (d + 1) M_Table_isCovered 0 0 2 [(2, v0), (0, v1), (0, v2), (0, iw (v3 + 1))] [] kd m (zqI kd q))) ∧ (¬ v3 = v1 → (zobj kd v0 5 ∧ zIn kd (m v0 8) 1 v3 ∧ (((m (m v0 8) v3) ≠ 0 → (Ev (d + 1) M_Table_isCovered 0 0 2 [(2, v0), (0, v1), (0, v2), (0, iw (v3 + 1))] [] kd m (zqI kd q))) ∧ (¬ (m (m v0 8) v3) ≠ 0 → (zobj kd v0 5 ∧ zobj kd v0 5 ∧ (zobj kd v0 5 ∧ ∃ q1, CtI d M_Table_covers [(2, v0), (0, iw (v3 * (m v0 4))), (0, iw (v1 * (m v0 4)))] kd m q1 ∧ ∀ x2 m3, q1 x2 m3 → ((x2 = 0 → (Ev (d + 1) M_Table_isCovered 0 0 2 [(2, v0), (0, v1), (0, v2), (0, iw (v3 + 1))] [] kd m3 (zqI kd q))) ∧ (¬ x2 = 0 → q 1 m3))))))))))))) : Ev (d + 1) M_Table_isCovered 0 0 2 [(2, v0), (0, v1), (0, v2), (0, v3)] [] kd m (zqI kd q) := by
  obtain ⟨o1, h⟩ := h
  refine EvX.blk (pc' := 9) [(.iload_n 3, 0, 0), (.iload_n 2, 0, 0), (.aload_n 0, 0, 0), (.getfield 15, 5, 1), (.iadd, 0, 0)] (by decide +kernel) ⟨g_Table_15, trivial⟩ ⟨o1, ?_⟩
  show Ev (d + 1) M_Table_isCovered 0 0 9 [(2, v0), (0, v1), (0, v2), (0, v3)] [(0, iw (v2 + (m v0 1))), (0, v3)] kd m (zqI kd q)
  refine EvX.icmp_ge (off := 44) (tgt := 53) (by decide +kernel) (by decide) (fun hc => ?_) (fun hc => ?_)
  · have h := h.1 hc
    refine EvX.blk (pc' := 54) [(.iconst 0, 0, 0)] (by decide +kernel) trivial ?_
    show Ev (d + 1) M_Table_isCovered 0 0 54 [(2, v0), (0, v1), (0, v2), (0, v3)] [(0, 0)] kd m (zqI kd q)
    exact EvX.ret (r := (0, 0)) (by decide +kernel) ⟨rfl, by decide, by decide⟩ ⟨_, rfl, rfl, h⟩
  · have h := h.2 hc
    refine EvX.blk (pc' := 14) [(.iload_n 3, 0, 0), (.iload_n 1, 0, 0)] (by decide +kernel) trivial ?_
    show Ev (d + 1) M_Table_isCovered 0 0 14 [(2, v0), (0, v1), (0, v2), (0, v3)] [(0, v1), (0, v3)] kd m (zqI kd q)
    refine EvX.icmp_eq (off := 33) (tgt := 47) (by decide +kernel) (by decide) (fun hc => ?_) (fun hc => ?_)
    · have h := h.1 hc
      refine EvX.blk (pc' := 50) [(.iinc 3 1, 0, 0)] (by decide +kernel) trivial ?_
      show Ev (d + 1) M_Table_isCovered 0 0 50 [(2, v0), (0, v1), (0, v2), (0, iw (v3 + 1))] [] kd m (zqI kd q)
      refine EvX.goto (off := (-48)) (tgt := 2) (by decide +kernel) (by decide) ?_
      exact h
    · have h := h.2 hc
      obtain ⟨o1, o2, h⟩ := h
      refine EvX.blk (pc' := 23) [(.aload_n 0, 0, 0), (.getfield 37, 5, 8), (.iload_n 3, 0, 0), (.baload, 1, 0)] (by decide +kernel) ⟨g_Table_37, trivial⟩ ⟨o1, Or.inl rfl, o2, ?_⟩
      show Ev (d + 1) M_Table_isCovered 0 0 23 [(2, v0), (0, v1), (0, v2), (0, v3)] [(0, m (m v0 8) v3)] kd m (zqI kd q)
      refine EvX.if_ne (off := 24) (tgt := 47) (by decide +kernel) (by decide) (fun hc => ?_) (fun hc => ?_)
      · have h := h.1 hc
        refine EvX.blk (pc' := 50) [(.iinc 3 1, 0, 0)] (by decide +kernel) trivial ?_
        show Ev (d + 1) M_Table_isCovered 0 0 50 [(2, v0), (0, v1), (0, v2), (0, iw (v3 + 1))] [] kd m (zqI kd q)
        refine EvX.goto (off := (-48)) (tgt := 2) (by decide +kernel) (by decide) ?_
        exact h
      · have h := h.2 hc
        obtain ⟨o1, o2, h⟩ := h
        refine EvX.blk (pc' := 39) [(.aload_n 0, 0, 0), (.iload_n 3, 0, 0), (.aload_n 0, 0, 0), (.getfield 24, 5, 4), (.imul, 0, 0), (.iload_n 1, 0, 0), (.aload_n 0, 0, 0), (.getfield 24, 5, 4), (.imul, 0, 0)] (by decide +kernel) ⟨g_Table_24, g_Table_24, trivial⟩ ⟨o1, o2, ?_⟩
        show Ev (d + 1) M_Table_isCovered 0 0 39 [(2, v0), (0, v1), (0, v2), (0, v3)] [(0, iw (v1 * (m v0 4))), (0, iw (v3 * (m v0 4))), (2, v0)] kd m (zqI kd q)
        obtain ⟨ov, h⟩ := h
        obtain ⟨q1, hq, h⟩ := h
        refine EvX.callV (c := 5) (mc := 0) (ms := 0) (as := [(0, iw (v3 * (m v0 4))), (0, iw (v1 * (m v0 4)))]) (st := []) (by decide +kernel) l_Table_194 k_Table_covers v_Table_covers a_Table_covers (by decide) (Nat.le_of_ble_eq_true rfl) rfl ov hq (fun r kd1 m3 hr => ?_)
        obtain ⟨x2, rfl, hk, hr⟩ := hr
        subst kd1
        have h := h x2 m3 hr
        show Ev (d + 1) M_Table_isCovered 0 0 42 [(2, v0), (0, v1), (0, v2), (0, v3)] [(0, x2)] kd m3 (zqI kd q)
        refine EvX.if_eq (off := 5) (tgt := 47) (by decide +kernel) (by decide) (fun hc => ?_) (fun hc => ?_)
        · have h := h.1 hc
          refine EvX.blk (pc' := 50) [(.iinc 3 1, 0, 0)] (by decide +kernel) trivial ?_
          show Ev (d + 1) M_Table_isCovered 0 0 50 [(2, v0), (0, v1), (0, v2), (0, iw (v3 + 1))] [] kd m3 (zqI kd q)
          refine EvX.goto (off := (-48)) (tgt := 2) (by decide +kernel) (by decide) ?_
          exact h
        · have h := h.2 hc
          refine EvX.blk (pc' := 46) [(.iconst 1, 0, 0)] (by decide +kernel) trivial ?_
          show Ev (d + 1) M_Table_isCovered 0 0 46 [(2, v0), (0, v1), (0, v2), (0, v3)] [(0, 1)] kd m3 (zqI kd q)
          exact EvX.ret (r := (0, 1)) (by decide +kernel) ⟨rfl, by decide, by decide⟩ ⟨_, rfl, rfl, h⟩
set_option maxRecDepth 20000 in
set_option maxHeartbeats 1000000 in
theorem T_Table_covers_0 {d : Nat} {kd : ZK} {m : ZM} {q : Int → ZM → Prop} {v0 v1 v2 : Int} (h : (Ev (d + 1) M_Table_covers 0 0 2 [(2, v0), (0, v1), (0, v2), (0, 0)] [] kd m (zqI kd q))) : Ev (d + 1) M_Table_covers 0 0 0 [(2, v0), (0, v1), (0, v2), zJ] [] kd m (zqI kd q) := by
  refine EvX.blk (pc' := 2) [(.iconst 0, 0, 0), (.istore_n 3, 0, 0)] (by decide +kernel) trivial ?_
  show Ev (d + 1) M_Table_covers 0 0 2 [(2, v0), (0, v1), (0, v2), (0, 0)] [] kd m (zqI kd q)
  exact h
theorem S_Table_covers {d : Nat} {kd : ZK} {m : ZM} {q : Int → ZM → Prop} {v0 v1 v2 : Int} (h : (Ev (d + 1) M_Table_covers 0 0 2 [(2, v0), (0, v1), (0, v2), (0, 0)] [] kd m (zqI kd q))) : CtI (d + 1) M_Table_covers [(2, v0), (0, v1), (0, v2)] kd m q :=
  Ct.start k_Table_covers (Nat.le_of_ble_eq_true rfl) ⟨2, Or.inr (Or.inr (Or.inl ⟨rfl, rfl⟩))⟩ (T_Table_covers_0 h)
set_option maxRecDepth 20000 in
set_option maxHeartbeats 1000000 in
theorem T_Table_covers_2 {d : Nat} {kd : ZK} {m : ZM} {q : Int → ZM → Prop} {v0 v1 v2 v3 : Int} (h : (zobj kd v0 5 ∧ (((m v0 4) ≤ v3 → q 1 m) ∧ (¬ (m v0 4) ≤ v3 → (zobj kd v0 5 ∧ zIn kd (m v0 5) 0 (iw (v1 + v3)) ∧ zobj kd v0 5 ∧ zIn kd (m v0 5) 0 (iw (v2 + v3)) ∧ (((m (m v0 5) (iw (v2 + v3))) ≤ (m (m v0 5) (iw (v1 + v3))) → (Ev (d + 1) M_Table_covers 0 0 2 [(2, v0), (0, v1), (0, v2), (0, iw (v3 + 1))] [] kd m (zqI kd q))) ∧ (¬ (m (m v0 5) (iw (v2 + v3))) ≤ (m (m v0 5) (iw (v1 + v3))) → q 0 m))))))) : Ev (d + 1) M_Table_covers 0 0 2 [(2, v0), (0, v1), (0, v2), (0, v3)] [] kd m (zqI kd q) := by
  obtain ⟨o1, h⟩ := h
  refine EvX.blk (pc' := 7) [(.iload_n 3, 0, 0), (.aload_n 0, 0, 0), (.getfield 24, 5, 4)] (by decide +kernel) ⟨g_Table_24, trivial⟩ ⟨o1, ?_⟩
  show Ev (d + 1) M_Table_covers 0 0 7 [(2, v0), (0, v1), (0, v2), (0, v3)] [(0, m v0 4), (0, v3)] kd m (zqI kd q)
  refine EvX.icmp_ge (off := 30) (tgt := 37) (by decide +kernel) (by decide) (fun hc => ?_) (fun hc => ?_)
  · have h := h.1 hc
    refine EvX.blk (pc' := 38) [(.iconst 1, 0, 0)] (by decide +kernel) trivial ?_
    show Ev (d + 1) M_Table_covers 0 0 38 [(2, v0), (0, v1), (0, v2), (0, v3)] [(0, 1)] kd m (zqI kd q)
    exact EvX.ret (r := (0, 1)) (by decide +kernel) ⟨rfl, by decide, by decide⟩ ⟨_, rfl, rfl, h⟩
  · have h := h.2 hc
    obtain ⟨o1, o2, o3, o4, h⟩ := h
    refine EvX.blk (pc' := 26) [(.aload_n 0, 0, 0), (.getfield 27, 5, 5), (.iload_n 1, 0, 0), (.iload_n 3, 0, 0), (.iadd, 0, 0), (.iaload, 0, 0), (.aload_n 0, 0, 0), (.getfield 27, 5, 5), (.iload_n 2, 0, 0), (.iload_n 3, 0, 0), (.iadd, 0, 0), (.iaload, 0, 0)] (by decide +kernel) ⟨g_Table_27, g_Table_27, trivial⟩ ⟨o1, o2, o3, o4, ?_⟩
    show Ev (d + 1) M_Table_covers 0 0 26 [(2, v0), (0, v1), (0, v2), (0, v3)] [(0, m (m v0 5) (iw (v2 + v3))), (0, m (m v0 5) (iw (v1 + v3)))] kd m (zqI kd q)
    refine EvX.icmp_ge (off := 5) (tgt := 31) (by decide +kernel) (by decide) (fun hc => ?_) (fun hc => ?_)
    · have h := h.1 hc
      refine EvX.blk (pc' := 34) [(.iinc 3 1, 0, 0)] (by decide +kernel) trivial ?_
      show Ev (d + 1) M_Table_covers 0 0 34 [(2, v0), (0, v1), (0, v2), (0, iw (v3 + 1))] [] kd m (zqI kd q)
      refine EvX.goto (off := (-32)) (tgt := 2) (by decide +kernel) (by decide) ?_
      exact h
    · have h := h.2 hc
      refine EvX.blk (pc' := 30) [(.iconst 0, 0, 0)] (by decide +kernel) trivial ?_
      show Ev (d + 1) M_Table_covers 0 0 30 [(2, v0), (0, v1), (0, v2), (0, v3)] [(0, 0)] kd m (zqI kd q)
      exact EvX.ret (r := (0, 0)) (by decide +kernel) ⟨rfl, by decide, by decide⟩ ⟨_, rfl, rfl, h⟩
set_option maxRecDepth 20000 in
set_option maxHeartbeats 1000000 in
theorem T_Table_fillHopes_0 {d : Nat} {kd : ZK} {m : ZM} {q : ZM → Prop} {v0 : Int} (h : (zobj kd v0 5 ∧ zobj kd v0 5 ∧ (Ev (d + 1) M_Table_fillHopes 0 0 12 [(2, v0), (0, iw ((m v0 0) * (m v0 4))), (0, 0), zJ] [] kd m (zqV kd q)))) : Ev (d + 1) M_Table_fillHopes 0 0 0 [(2, v0), zJ, zJ, zJ] [] kd m (zqV kd q) := by
  obtain ⟨o1, o2, h⟩ := h
  refine EvX.blk (pc' := 12) [(.aload_n 0, 0, 0), (.getfield 9, 5, 0), (.aload_n 0, 0, 0), (.getfield 24, 5, 4), (.imul, 0, 0), (.istore_n 1, 0, 0), (.iconst 0, 0, 0), (.istore_n 2, 0, 0)] (by decide +kernel) ⟨g_Table_9, g_Table_24, trivial⟩ ⟨o1, o2, ?_⟩
  show Ev (d + 1) M_Table_fillHopes 0 0 12 [(2, v0), (0, iw ((m v0 0) * (m v0 4))), (0, 0), zJ] [] kd m (zqV kd q)
  exact h
theorem S_Table_fillHopes {d : Nat} {kd : ZK} {m : ZM} {q : ZM → Prop} {v0 : Int} (h : (zobj kd v0 5 ∧ zobj kd v0 5 ∧ (Ev (d + 1) M_Table_fillHopes 0 0 12 [(2, v0), (0, iw ((m v0 0) * (m v0 4))), (0, 0), zJ] [] kd m (zqV kd q)))) : CtV (d + 1) M_Table_fillHopes [(2, v0)] kd m q :=
  Ct.start k_Table_fillHopes (Nat.le_of_ble_eq_true rfl) ⟨0, Or.inl ⟨rfl, rfl⟩⟩ (T_Table_fillHopes_0 h)
set_option maxRecDepth 20000 in
set_option maxHeartbeats 1000000 in
theorem T_Table_fillHopes_12 {d : Nat} {kd : ZK} {m : ZM} {q : ZM → Prop} {v0 v1 v2 : Int} (h : (zobj kd v0 5 ∧ (((m v0 4) ≤ v2 → (zobj kd v0 5 ∧ (Ev (d + 1) M_Table_fillHopes 0 0 42 [(2, v0), zJ, (0, iw ((m v0 0) - 1)), zJ] [] kd m (zqV kd q)))) ∧ (¬ (m v0 4) ≤ v2 → (zobj kd v0 5 ∧ zIn kd (m v0 7) 0 (iw (v1 + v2)) ∧ (Ev (d + 1) M_Table_fillHopes 0 0 12 [(2, v0), (0, v1), (0, iw (v2 + 1)), zJ] [] kd (zup m (m v0 7) (iw (v1 + v2)) 0) (zqV kd q))))))) : Ev (d + 1) M_Table_fillHopes 0 0 12 [(2, v0), (0, v1), (0, v2), zJ] [] kd m (zqV kd q) := by
  obtain ⟨o1, h⟩ := h
  refine EvX.blk (pc' := 17) [(.iload_n 2, 0, 0), (.aload_n 0, 0, 0), (.getfield 24, 5, 4)] (by decide +kernel) ⟨g_Table_24, trivial⟩ ⟨o1, ?_⟩
  show Ev (d + 1) M_Table_fillHopes 0 0 17 [(2, v0), (0, v1), (0, v2), zJ] [(0, m v0 4), (0, v2)] kd m (zqV kd q)
  refine EvX.icmp_ge (off := 18) (tgt := 35) (by decide +kernel) (by decide) (fun hc => ?_) (fun hc => ?_)
  · have h := h.1 hc
    obtain ⟨o1, h⟩ := h
    refine EvX.blk (pc' := 42) [(.aload_n 0, 0, 0), (.getfield 9, 5, 0), (.iconst 1, 0, 0), (.isub, 0, 0), (.istore_n 2, 0, 0)] (by decide +kernel) ⟨g_Table_9, trivial⟩ ⟨o1, ?_⟩
    show Ev (d + 1) M_Table_fillHopes 0 0 42 [(2, v0), (0, v1), (0, iw ((m v0 0) - 1)), zJ] [] kd m (zqV kd q)
    exact EvX.weak (ls2 := [(2, v0), zJ, (0, iw ((m v0 0) - 1)), zJ]) (zwk_of ⟨Or.inr rfl, Or.inl rfl, Or.inr rfl, Or.inl rfl, trivial⟩) h
  · have h := h.2 hc
    obtain ⟨o1, o2, h⟩ := h
    refine EvX.blk (pc' := 32) [(.aload_n 0, 0, 0), (.getfield 34, 5, 7), (.iload_n 1, 0, 0), (.iload_n 2, 0, 0), (.iadd, 0, 0), (.iconst 0, 0, 0), (.iastore, 0, 0), (.iinc 2 1, 0, 0)] (by decide +kernel) ⟨g_Table_34, trivial⟩ ⟨o1, o2, ?_⟩
    show Ev (d + 1) M_Table_fillHopes 0 0 32 [(2, v0), (0, v1), (0, iw (v2 + 1)), zJ] [] kd (zup m (m v0 7) (iw (v1 + v2)) 0) (zqV kd q)
    refine EvX.goto (off := (-20)) (tgt := 12) (by decide +kernel) (by decide) ?_
    exact h
set_option maxRecDepth 20000 in
set_option maxHeartbeats 1000000 in
theorem T_Table_fillHopes_42 {d : Nat} {kd : ZK} {m : ZM} {q : ZM → Prop} {v0 v2 : Int} (h : ((v2 < 0 → q m) ∧ (¬ v2 < 0 → (Ev (d + 1) M_Table_fillHopes 0 0 48 [(2, v0), zJ, (0, v2), (0, 0)] [] kd m (zqV kd q))))) : Ev (d + 1) M_Table_fillHopes 0 0 42 [(2, v0), zJ, (0, v2), zJ] [] kd m (zqV kd q) := by
  refine EvX.blk (pc' := 43) [(.iload_n 2, 0, 0)] (by decide +kernel) trivial ?_
  show Ev (d + 1) M_Table_fillHopes 0 0 43 [(2, v0), zJ, (0, v2), zJ] [(0, v2)] kd m (zqV kd q)
  refine EvX.if_lt (off := 60) (tgt := 103) (by decide +kernel) (by decide) (fun hc => ?_) (fun hc => ?_)
  · have h := h.1 hc
    exact EvX.ret (r := zJ) (by decide +kernel) rfl ⟨rfl, rfl, h⟩
  · have h := h.2 hc
    refine EvX.blk (pc' := 48) [(.iconst 0, 0, 0), (.istore_n 3, 0, 0)] (by decide +kernel) trivial ?_
    show Ev (d + 1) M_Table_fillHopes 0 0 48 [(2, v0), zJ, (0, v2), (0, 0)] [] kd m (zqV kd q)
    exact h
set_option maxRecDepth 20000 in
set_option maxHeartbeats 1000000 in
theorem T_Table_fillHopes_48 {d : Nat} {kd : ZK} {m : ZM} {q : ZM → Prop} {v0 v2 v3 : Int} (h : (zobj kd v0 5 ∧ (((m v0 4) ≤ v3 → (Ev (d + 1) M_Table_fillHopes 0 0 42 [(2, v0), zJ, (0, iw (v2 + (-1))), zJ] [] kd m (zqV kd q))) ∧ (¬ (m v0 4) ≤ v3 → (zobj kd v0 5 ∧ zobj kd v0 5 ∧ zobj kd v0 5 ∧ zobj kd v0 5 ∧ zIn kd (m v0 7) 0 (iw ((iw ((iw (v2 + 1)) * (m v0 4))) + v3)) ∧ (zobj kd v0 5 ∧ ∃ q1, CtI d M_Table_greatestGain [(2, v0), (0, v2), (0, v3)] kd m q1 ∧ ∀ x2 m3, q1 x2 m3 → (zIn kd (m v0 7) 0 (iw ((iw (v2 * (m v0 4))) + v3)) ∧ (Ev (d + 1) M_Table_fillHopes 0 0 48 [(2, v0), zJ, (0, v2), (0, iw (v3 + 1))] [] kd (zup m3 (m v0 7) (iw ((iw (v2 * (m v0 4))) + v3)) (iw ((m (m v0 7) (iw ((iw ((iw (v2 + 1)) * (m v0 4))) + v3))) + x2))) (zqV kd q))))))))) : Ev (d + 1) M_Table_fillHopes 0 0 48 [(2, v0), zJ, (0, v2), (0, v3)] [] kd m (zqV kd q) := by
  obtain ⟨o1, h⟩ := h
  refine EvX.blk (pc' := 53) [(.iload_n 3, 0, 0), (.aload_n 0, 0, 0), (.getfield 24, 5, 4)] (by decide +kernel) ⟨g_Table_24, trivial⟩ ⟨o1, ?_⟩
  show Ev (d + 1) M_Table_fillHopes 0 0 53 [(2, v0), zJ, (0, v2), (0, v3)] [(0, m v0 4), (0, v3)] kd m (zqV kd q)
  refine EvX.icmp_ge (off := 44) (tgt := 97) (by decide +kernel) (by decide) (fun hc => ?_) (fun hc => ?_)
  · have h := h.1 hc
    refine EvX.blk (pc' := 100) [(.iinc 2 (-1), 0, 0)] (by decide +kernel) trivial ?_
    show Ev (d + 1) M_Table_fillHopes 0 0 100 [(2, v0), zJ, (0, iw (v2 + (-1))), (0, v3)] [] kd m (zqV kd q)
    refine EvX.goto (off := (-58)) (tgt := 42) (by decide +kernel) (by decide) ?_
    exact EvX.weak (ls2 := [(2, v0), zJ, (0, iw (v2 + (-1))), zJ]) (zwk_of ⟨Or.inr rfl, Or.inl rfl, Or.inr rfl, Or.inl rfl, trivial⟩) h
  · have h := h.2 hc
    obtain ⟨o1, o2, o3, o4, o5, h⟩ := h
    refine EvX.blk (pc' := 86) [(.aload_n 0, 0, 0), (.getfield 34, 5, 7), (.iload_n 2, 0, 0), (.aload_n 0, 0, 0), (.getfield 24, 5, 4), (.imul, 0, 0), (.iload_n 3, 0, 0), (.iadd, 0, 0), (.aload_n 0, 0, 0), (.getfield 34, 5, 7), (.iload_n 2, 0, 0), (.iconst 1, 0, 0), (.iadd, 0, 0), (.aload_n 0, 0, 0), (.getfield 24, 5, 4), (.imul, 0, 0), (.iload_n 3, 0, 0), (.iadd, 0, 0), (.iaload, 0, 0), (.aload_n 0, 0, 0), (.iload_n 2, 0, 0), (.iload_n 3, 0, 0)] (by decide +kernel) ⟨g_Table_34, g_Table_24, g_Table_34, g_Table_24, trivial⟩ ⟨o1, o2, o3, o4, o5, ?_⟩
    show Ev (d + 1) M_Table_fillHopes 0 0 86 [(2, v0), zJ, (0, v2), (0, v3)] [(0, v3), (0, v2), (2, v0), (0, m (m v0 7) (iw ((iw ((iw (v2 + 1)) * (m v0 4))) + v3))), (0, iw ((iw (v2 * (m v0 4))) + v3)), (2, m v0 7)] kd m (zqV kd q)
    obtain ⟨ov, h⟩ := h
    obtain ⟨q1, hq, h⟩ := h
    refine EvX.callV (c := 5) (mc := 0) (ms := 0) (as := [(0, v2), (0, v3)]) (st := [(0, m (m v0 7) (iw ((iw ((iw (v2 + 1)) * (m v0 4))) + v3))), (0, iw ((iw (v2 * (m v0 4))) + v3)), (2, m v0 7)]) (by decide +kernel) l_Table_197 k_Table_greatestGain v_Table_greatestGain a_Table_greatestGain (by decide) (Nat.le_of_ble_eq_true rfl) rfl ov hq (fun r kd1 m3 hr => ?_)
    obtain ⟨x2, rfl, hk, hr⟩ := hr
    subst kd1
    have h := h x2 m3 hr
    show Ev (d + 1) M_Table_fillHopes 0 0 89 [(2, v0), zJ, (0, v2), (0, v3)] [(0, x2), (0, m (m v0 7) (iw ((iw ((iw (v2 + 1)) * (m v0 4))) + v3))), (0, iw ((iw (v2 * (m v0 4))) + v3)), (2, m v0 7)] kd m3 (zqV kd q)
    obtain ⟨o1, h⟩ := h
    refine EvX.blk (pc' := 94) [(.iadd, 0, 0), (.iastore, 0, 0), (.iinc 3 1, 0, 0)] (by decide +kernel) trivial ⟨o1, ?_⟩
    show Ev (d + 1) M_Table_fillHopes 0 0 94 [(2, v0), zJ, (0, v2), (0, iw (v3 + 1))] [] kd (zup m3 (m v0 7) (iw ((iw (v2 * (m v0 4))) + v3)) (iw ((m (m v0 7) (iw ((iw ((iw (v2 + 1)) * (m v0 4))) + v3))) + x2))) (zqV kd q)
    refine EvX.goto (off := (-46)) (tgt := 48) (by decide +kernel) (by decide) ?_
    exact h
set_option maxRecDepth 20000 in
set_option maxHeartbeats 1000000 in
theorem T_Table_greatestGain_0 {d : Nat} {kd : ZK} {m : ZM} {q : Int → ZM → Prop} {v0 v1 v2 : Int} (h : (zobj kd v0 5 ∧ zobj kd v0 5 ∧ zobj kd v0 5 ∧ zIn kd (m v0 5) 0 (iw ((iw ((iw (v1 * (m v0 1))) * (m v0 4))) + v2)) ∧ (Ev (d + 1) M_Table_greatestGain 0 0 25 [(2, v0), zJ, zJ, (0, iw ((iw ((iw (v1 * (m v0 1))) * (m v0 4))) + v2)), (0, m (m v0 5) (iw ((iw ((iw (v1 * (m v0 1))) * (m v0 4))) + v2))), (0, 1)] [] kd m (zqI kd q)))) : Ev (d + 1) M_Table_greatestGain 0 0 0 [(2, v0), (0, v1), (0, v2), zJ, zJ, zJ] [] kd m (zqI kd q) := by
  obtain ⟨o1, o2, o3, o4, h⟩ := h
  refine EvX.blk (pc' := 25) [(.iload_n 1, 0, 0), (.aload_n 0, 0, 0), (.getfield 15, 5, 1), (.imul, 0, 0), (.aload_n 0, 0, 0), (.getfield 24, 5, 4), (.imul, 0, 0), (.iload_n 2, 0, 0), (.iadd, 0, 0), (.istore_n 3, 0, 0), (.aload_n 0, 0, 0), (.getfield 27, 5, 5), (.iload_n 3, 0, 0), (.iaload, 0, 0), (.istore 4, 0, 0), (.iconst 1, 0, 0), (.istore 5, 0, 0)] (by decide +kernel) ⟨g_Table_15, g_Table_24, g_Table_27, trivial⟩ ⟨o1, o2, o3, o4, ?_⟩
  show Ev (d + 1) M_Table_greatestGain 0 0 25 [(2, v0), (0, v1), (0, v2), (0, iw ((iw ((iw (v1 * (m v0 1))) * (m v0 4))) + v2)), (0, m (m v0 5) (iw ((iw ((iw (v1 * (m v0 1))) * (m v0 4))) + v2))), (0, 1)] [] kd m (zqI kd q)
  exact EvX.weak (ls2 := [(2, v0), zJ, zJ, (0, iw ((iw ((iw (v1 * (m v0 1))) * (m v0 4))) + v2)), (0, m (m v0 5) (iw ((iw ((iw (v1 * (m v0 1))) * (m v0 4))) + v2))), (0, 1)]) (zwk_of ⟨Or.inr rfl, Or.inl rfl, Or.inl rfl, Or.inr rfl, Or.inr rfl, Or.inr rfl, trivial⟩) h
theorem S_Table_greatestGain {d : Nat} {kd : ZK} {m : ZM} {q : Int → ZM → Prop} {v0 v1 v2 : Int} (h : (zobj kd v0 5 ∧ zobj kd v0 5 ∧ zobj kd v0 5 ∧ zIn kd (m v0 5) 0 (iw ((iw ((iw (v1 * (m v0 1))) * (m v0 4))) + v2)) ∧ (Ev (d + 1) M_Table_greatestGain 0 0 25 [(2, v0), zJ, zJ, (0, iw ((iw ((iw (v1 * (m v0 1))) * (m v0 4))) + v2)), (0, m (m v0 5) (iw ((iw ((iw (v1 * (m v0 1))) * (m v0 4))) + v2))), (0, 1)] [] kd m (zqI kd q)))) : CtI (d + 1) M_Table_greatestGain [(2, v0), (0, v1), (0, v2)] kd m q :=
  Ct.start k_Table_greatestGain (Nat.le_of_ble_eq_true rfl) ⟨1, Or.inr (Or.inl ⟨rfl, rfl⟩)⟩ (T_Table_greatestGain_0 h)
set_option maxRecDepth 20000 in
set_option maxHeartbeats 1000000 in
theorem T_Table_greatestGain_25 {d : Nat} {kd : ZK} {m : ZM} {q : Int → ZM → Prop} {v0 v3 v4 v5 : Int} (h : (zobj kd v0 5 ∧ (((m v0 1) ≤ v5 → q v4 m) ∧ (¬ (m v0 1) ≤ v5 → (zobj kd v0 5 ∧ zobj kd v0 5 ∧ zIn kd (m v0 5) 0 (iw (v3 + (m v0 4))) ∧ (Ev (d + 1) M_Table_greatestGain 0 0 25 [(2, v0), zJ, zJ, (0, iw (v3 + (m v0 4))), (0, zmax v4 (m (m v0 5) (iw (v3 + (m v0 4))))), (0, iw (v5 + 1))] [] kd m (zqI kd q))))))) : Ev (d + 1) M_Table_greatestGain 0 0 25 [(2, v0), zJ, zJ, (0, v3), (0, v4), (0, v5)] [] kd m (zqI kd q) := by
  obtain ⟨o1, h⟩ := h
  refine EvX.blk (pc' := 31) [(.iload 5, 0, 0), (.aload_n 0, 0, 0), (.getfield 15, 5, 1)] (by decide +kernel) ⟨g_Table_15, trivial⟩ ⟨o1, ?_⟩
  show Ev (d + 1) M_Table_greatestGain 0 0 31 [(2, v0), zJ, zJ, (0, v3), (0, v4), (0, v5)] [(0, m v0 1), (0, v5)] kd m (zqI kd q)
  refine EvX.icmp_ge (off := 29) (tgt := 60) (by decide +kernel) (by decide) (fun hc => ?_) (fun hc => ?_)
  · have h := h.1 hc
    refine EvX.blk (pc' := 62) [(.iload 4, 0, 0)] (by decide +kernel) trivial ?_
    show Ev (d + 1) M_Table_greatestGain 0 0 62 [(2, v0), zJ, zJ, (0, v3), (0, v4), (0, v5)] [(0, v4)] kd m (zqI kd q)
    exact EvX.ret (r := (0, v4)) (by decide +kernel) rfl ⟨_, rfl, rfl, h⟩
  · have h := h.2 hc
    obtain ⟨o1, o2, o3, h⟩ := h
    refine EvX.blk (pc' := 49) [(.iload_n 3, 0, 0), (.aload_n 0, 0, 0), (.getfield 24, 5, 4), (.iadd, 0, 0), (.istore_n 3, 0, 0), (.iload 4, 0, 0), (.aload_n 0, 0, 0), (.getfield 27, 5, 5), (.iload_n 3, 0, 0), (.iaload, 0, 0)] (by decide +kernel) ⟨g_Table_24, g_Table_27, trivial⟩ ⟨o1, o2, o3, ?_⟩
    show Ev (d + 1) M_Table_greatestGain 0 0 49 [(2, v0), zJ, zJ, (0, iw (v3 + (m v0 4))), (0, v4), (0, v5)] [(0, m (m v0 5) (iw (v3 + (m v0 4)))), (0, v4)] kd m (zqI kd q)
    refine EvX.mmax' (by decide +kernel) y_Table_119 (Nat.le_of_ble_eq_true rfl) ?_
    show Ev (d + 1) M_Table_greatestGain 0 0 52 [(2, v0), zJ, zJ, (0, iw (v3 + (m v0 4))), (0, v4), (0, v5)] [(0, zmax v4 (m (m v0 5) (iw (v3 + (m v0 4)))))] kd m (zqI kd q)
    refine EvX.blk (pc' := 57) [(.istore 4, 0, 0), (.iinc 5 1, 0, 0)] (by decide +kernel) trivial ?_
    show Ev (d + 1) M_Table_greatestGain 0 0 57 [(2, v0), zJ, zJ, (0, iw (v3 + (m v0 4))), (0, zmax v4 (m (m v0 5) (iw (v3 + (m v0 4))))), (0, iw (v5 + 1))] [] kd m (zqI kd q)
    refine EvX.goto (off := (-32)) (tgt := 25) (by decide +kernel) (by decide) ?_
    exact h
set_option maxRecDepth 20000 in
set_option maxHeartbeats 1000000 in
theorem T_Table_hopeAt_0 {d : Nat} {kd : ZK} {m : ZM} {q : Int → ZM → Prop} {v0 v1 : Int} (h : (zobj kd v0 5 ∧ (Ev (d + 1) M_Table_hopeAt 0 0 12 [(2, v0), zJ, (0, 0), (0, iw (v1 * (m v0 4))), (0, 0), zJ, zJ] [] kd m (zqI kd q)))) : Ev (d + 1) M_Table_hopeAt 0 0 0 [(2, v0), (0, v1), zJ, zJ, zJ, zJ, zJ] [] kd m (zqI kd q) := by
  obtain ⟨o1, h⟩ := h
  refine EvX.blk (pc' := 12) [(.iconst 0, 0, 0), (.istore_n 2, 0, 0), (.iload_n 1, 0, 0), (.aload_n 0, 0, 0), (.getfield 24, 5, 4), (.imul, 0, 0), (.istore_n 3, 0, 0), (.iconst 0, 0, 0), (.istore 4, 0, 0)] (by decide +kernel) ⟨g_Table_24, trivial⟩ ⟨o1, ?_⟩
  show Ev (d + 1) M_Table_hopeAt 0 0 12 [(2, v0), (0, v1), (0, 0), (0, iw (v1 * (m v0 4))), (0, 0), zJ, zJ] [] kd m (zqI kd q)
  exact EvX.weak (ls2 := [(2, v0), zJ, (0, 0), (0, iw (v1 * (m v0 4))), (0, 0), zJ, zJ]) (zwk_of ⟨Or.inr rfl, Or.inl rfl, Or.inr rfl, Or.inr rfl, Or.inr rfl, Or.inl rfl, Or.inl rfl, trivial⟩) h
theorem S_Table_hopeAt {d : Nat} {kd : ZK} {m : ZM} {q : Int → ZM → Prop} {v0 v1 : Int} (h : (zobj kd v0 5 ∧ (Ev (d + 1) M_Table_hopeAt 0 0 12 [(2, v0), zJ, (0, 0), (0, iw (v1 * (m v0 4))), (0, 0), zJ, zJ] [] kd m (zqI kd q)))) : CtI (d + 1) M_Table_hopeAt [(2, v0), (0, v1)] kd m q :=
  Ct.start k_Table_hopeAt (Nat.le_of_ble_eq_true rfl) ⟨1, Or.inr (Or.inl ⟨rfl, rfl⟩)⟩ (T_Table_hopeAt_0 h)
set_option maxRecDepth 20000 in
set_option maxHeartbeats 1000000 in
theorem T_Table_hopeAt_12 {d : Nat} {kd : ZK} {m : ZM} {q : Int → ZM → Prop} {v0 v2 v3 v4 : Int} (h : (zobj kd v0 5 ∧ (((m v0 2) ≤ v4 → q v2 m) ∧ (¬ (m v0 2) ≤ v4 → (zobj kd v0 5 ∧ zIn kd (m v0 6) 0 v3 ∧ zobj kd v0 5 ∧ zIn kd (m v0 7) 0 v3 ∧ (Ev (d + 1) M_Table_hopeAt 0 0 42 [(2, v0), zJ, (0, v2), (0, iw (v3 + 1)), (0, v4), (0, iw ((m (m v0 6) v3) + (m (m v0 7) v3))), (0, 1)] [] kd m (zqI kd q))))))) : Ev (d + 1) M_Table_hopeAt 0 0 12 [(2, v0), zJ, (0, v2), (0, v3), (0, v4), zJ, zJ] [] kd m (zqI kd q) := by
  obtain ⟨o1, h⟩ := h
  refine EvX.blk (pc' := 18) [(.iload 4, 0, 0), (.aload_n 0, 0, 0), (.getfield 18, 5, 2)] (by decide +kernel) ⟨g_Table_18, trivial⟩ ⟨o1, ?_⟩
  show Ev (d + 1) M_Table_hopeAt 0 0 18 [(2, v0), zJ, (0, v2), (0, v3), (0, v4), zJ, zJ] [(0, m v0 2), (0, v4)] kd m (zqI kd q)
  refine EvX.icmp_ge (off := 73) (tgt := 91) (by decide +kernel) (by decide) (fun hc => ?_) (fun hc => ?_)
  · have h := h.1 hc
    refine EvX.blk (pc' := 92) [(.iload_n 2, 0, 0)] (by decide +kernel) trivial ?_
    show Ev (d + 1) M_Table_hopeAt 0 0 92 [(2, v0), zJ, (0, v2), (0, v3), (0, v4), zJ, zJ] [(0, v2)] kd m (zqI kd q)
    exact EvX.ret (r := (0, v2)) (by decide +kernel) rfl ⟨_, rfl, rfl, h⟩
  · have h := h.2 hc
    obtain ⟨o1, o2, o3, o4, h⟩ := h
    refine EvX.blk (pc' := 42) [(.aload_n 0, 0, 0), (.getfield 31, 5, 6), (.iload_n 3, 0, 0), (.iaload, 0, 0), (.aload_n 0, 0, 0), (.getfield 34, 5, 7), (.iload_n 3, 0, 0), (.iaload, 0, 0), (.iadd, 0, 0), (.istore 5, 0, 0), (.iinc 3 1, 0, 0), (.iconst 1, 0, 0), (.istore 6, 0, 0)] (by decide +kernel) ⟨g_Table_31, g_Table_34, trivial⟩ ⟨o1, o2, o3, o4, ?_⟩
    show Ev (d + 1) M_Table_hopeAt 0 0 42 [(2, v0), zJ, (0, v2), (0, iw (v3 + 1)), (0, v4), (0, iw ((m (m v0 6) v3) + (m (m v0 7) v3))), (0, 1)] [] kd m (zqI kd q)
    exact h
set_option maxRecDepth 20000 in
set_option maxHeartbeats 1000000 in
theorem T_Table_hopeAt_42 {d : Nat} {kd : ZK} {m : ZM} {q : Int → ZM → Prop} {v0 v2 v3 v4 v5 v6 : Int} (h : (zobj kd v0 5 ∧ (((m v0 3) ≤ v6 → (Ev (d + 1) M_Table_hopeAt 0 0 12 [(2, v0), zJ, (0, iw (v2 + v5)), (0, v3), (0, iw (v4 + 1)), zJ, zJ] [] kd m (zqI kd q))) ∧ (¬ (m v0 3) ≤ v6 → (zobj kd v0 5 ∧ zIn kd (m v0 6) 0 v3 ∧ zobj kd v0 5 ∧ zIn kd (m v0 7) 0 v3 ∧ (Ev (d + 1) M_Table_hopeAt 0 0 42 [(2, v0), zJ, (0, v2), (0, iw (v3 + 1)), (0, v4), (0, zmax v5 (iw ((m (m v0 6) v3) + (m (m v0 7) v3)))), (0, iw (v6 + 1))] [] kd m (zqI kd q))))))) : Ev (d + 1) M_Table_hopeAt 0 0 42 [(2, v0), zJ, (0, v2), (0, v3), (0, v4), (0, v5), (0, v6)] [] kd m (zqI kd q) := by
  obtain ⟨o1, h⟩ := h
  refine EvX.blk (pc' := 48) [(.iload 6, 0, 0), (.aload_n 0, 0, 0), (.getfield 21, 5, 3)] (by decide +kernel) ⟨g_Table_21, trivial⟩ ⟨o1, ?_⟩
  show Ev (d + 1) M_Table_hopeAt 0 0 48 [(2, v0), zJ, (0, v2), (0, v3), (0, v4), (0, v5), (0, v6)] [(0, m v0 3), (0, v6)] kd m (zqI kd q)
  refine EvX.icmp_ge (off := 32) (tgt := 80) (by decide +kernel) (by decide) (fun hc => ?_) (fun hc => ?_)
  · have h := h.1 hc
    refine EvX.blk (pc' := 88) [(.iload_n 2, 0, 0), (.iload 5, 0, 0), (.iadd, 0, 0), (.istore_n 2, 0, 0), (.iinc 4 1, 0, 0)] (by decide +kernel) trivial ?_
    show Ev (d + 1) M_Table_hopeAt 0 0 88 [(2, v0), zJ, (0, iw (v2 + v5)), (0, v3), (0, iw (v4 + 1)), (0, v5), (0, v6)] [] kd m (zqI kd q)
    refine EvX.goto (off := (-76)) (tgt := 12) (by decide +kernel) (by decide) ?_
    exact EvX.weak (ls2 := [(2, v0), zJ, (0, iw (v2 + v5)), (0, v3), (0, iw (v4 + 1)), zJ, zJ]) (zwk_of ⟨Or.inr rfl, Or.inl rfl, Or.inr rfl, Or.inr rfl, Or.inr rfl, Or.inl rfl, Or.inl rfl, trivial⟩) h
  · have h := h.2 hc
    obtain ⟨o1, o2, o3, o4, h⟩ := h
    refine EvX.blk (pc' := 66) [(.iload 5, 0, 0), (.aload_n 0, 0, 0), (.getfield 31, 5, 6), (.iload_n 3, 0, 0), (.iaload, 0, 0), (.aload_n 0, 0, 0), (.getfield 34, 5, 7), (.iload_n 3, 0, 0), (.iaload, 0, 0), (.iadd, 0, 0)] (by decide +kernel) ⟨g_Table_31, g_Table_34, trivial⟩ ⟨o1, o2, o3, o4, ?_⟩
    show Ev (d + 1) M_Table_hopeAt 0 0 66 [(2, v0), zJ, (0, v2), (0, v3), (0, v4), (0, v5), (0, v6)] [(0, iw ((m (m v0 6) v3) + (m (m v0 7) v3))), (0, v5)] kd m (zqI kd q)
    refine EvX.mmax' (by decide +kernel) y_Table_119 (Nat.le_of_ble_eq_true rfl) ?_
    show Ev (d + 1) M_Table_hopeAt 0 0 69 [(2, v0), zJ, (0, v2), (0, v3), (0, v4), (0, v5), (0, v6)] [(0, zmax v5 (iw ((m (m v0 6) v3) + (m (m v0 7) v3))))] kd m (zqI kd q)
    refine EvX.blk (pc' := 77) [(.istore 5, 0, 0), (.iinc 3 1, 0, 0), (.iinc 6 1, 0, 0)] (by decide +kernel) trivial ?_
    show Ev (d + 1) M_Table_hopeAt 0 0 77 [(2, v0), zJ, (0, v2), (0, iw (v3 + 1)), (0, v4), (0, zmax v5 (iw ((m (m v0 6) v3) + (m (m v0 7) v3)))), (0, iw (v6 + 1))] [] kd m (zqI kd q)
    refine EvX.goto (off := (-35)) (tgt := 42) (by decide +kernel) (by decide) ?_
    exact h
