/-! TREES anew, with more cuts -/
set_option maxRecDepth 20000 in
set_option maxHeartbeats 1000000 in
theorem U_Past_restore_0 {d : Nat} {kd : ZK} {m : ZM} {q : ZM → Prop} {v0 v1 : Int} (h : (zobj kd v0 2 ∧ zobj kd v0 2 ∧ (Ev (d + 1) M_Past_restore 0 0 16 [(2, v0), (2, v1)] [] kd (zup m v0 1 (Int.tmod (iw ((iw ((m v0 1) + 10)) - 1)) 10)) (zqV kd q)))) : Ev (d + 1) M_Past_restore 0 0 0 [(2, v0), (2, v1)] [] kd m (zqV kd q) := by
  obtain ⟨o1, o2, h⟩ := h
  refine EvX.blk (pc' := 16) [(.aload_n 0, 0, 0), (.aload_n 0, 0, 0), (.getfield 16, 2, 1), (.bipush 10, 0, 0), (.iadd, 0, 0), (.iconst 1, 0, 0), (.isub, 0, 0), (.bipush 10, 0, 0), (.irem, 0, 0), (.putfield 16, 2, 1)] (by decide +kernel) ⟨g_Past_16, ⟨g_Past_16, p_Past_16⟩, trivial⟩ ⟨o1, by decide, rfl, o2, ?_⟩
  show Ev (d + 1) M_Past_restore 0 0 16 [(2, v0), (2, v1)] [] kd (zup m v0 1 (Int.tmod (iw ((iw ((m v0 1) + 10)) - 1)) 10)) (zqV kd q)
  exact h
theorem US_Past_restore {d : Nat} {kd : ZK} {m : ZM} {q : ZM → Prop} {v0 v1 : Int} (h : (zobj kd v0 2 ∧ zobj kd v0 2 ∧ (Ev (d + 1) M_Past_restore 0 0 16 [(2, v0), (2, v1)] [] kd (zup m v0 1 (Int.tmod (iw ((iw ((m v0 1) + 10)) - 1)) 10)) (zqV kd q)))) : CtV (d + 1) M_Past_restore [(2, v0), (2, v1)] kd m q :=
  Ct.start k_Past_restore (Nat.le_of_ble_eq_true rfl) ⟨0, Or.inl ⟨rfl, rfl⟩⟩ (U_Past_restore_0 h)
set_option maxRecDepth 20000 in
set_option maxHeartbeats 1000000 in
theorem U_Past_restore_16 {d : Nat} {kd : ZK} {m : ZM} {q : ZM → Prop} {v0 v1 : Int} (h : (zobj kd v0 2 ∧ zobj kd v0 2 ∧ (Ev (d + 1) M_Past_restore 0 0 26 [(2, v0), (2, v1)] [] kd (zup m v0 2 (iw ((m v0 2) - 1))) (zqV kd q)))) : Ev (d + 1) M_Past_restore 0 0 16 [(2, v0), (2, v1)] [] kd m (zqV kd q) := by
  obtain ⟨o1, o2, h⟩ := h
  refine EvX.blk (pc' := 26) [(.aload_n 0, 0, 0), (.dup, 0, 0), (.getfield 20, 2, 2), (.iconst 1, 0, 0), (.isub, 0, 0), (.putfield 20, 2, 2)] (by decide +kernel) ⟨g_Past_20, ⟨g_Past_20, p_Past_20⟩, trivial⟩ ⟨o1, rfl, o2, ?_⟩
  show Ev (d + 1) M_Past_restore 0 0 26 [(2, v0), (2, v1)] [] kd (zup m v0 2 (iw ((m v0 2) - 1))) (zqV kd q)
  exact h
set_option maxRecDepth 20000 in
set_option maxHeartbeats 1000000 in
theorem U_Past_restore_26 {d : Nat} {kd : ZK} {m : ZM} {q : ZM → Prop} {v0 v1 : Int} (h : (zobj kd v0 2 ∧ zobj kd v0 2 ∧ zIn kd (m v0 0) 3 (m v0 1) ∧ (zobj kd v1 1 ∧ ∃ q1, CtV d M_Game_become [(2, v1), (2, m (m v0 0) (m v0 1))] kd m q1 ∧ ∀ m3, q1 m3 → q m3))) : Ev (d + 1) M_Past_restore 0 0 26 [(2, v0), (2, v1)] [] kd m (zqV kd q) := by
  obtain ⟨o1, o2, o3, h⟩ := h
  refine EvX.blk (pc' := 36) [(.aload_n 1, 0, 0), (.aload_n 0, 0, 0), (.getfield 10, 2, 0), (.aload_n 0, 0, 0), (.getfield 16, 2, 1), (.aaload, 0, 0)] (by decide +kernel) ⟨g_Past_10, g_Past_16, trivial⟩ ⟨o1, o2, o3, ?_⟩
  show Ev (d + 1) M_Past_restore 0 0 36 [(2, v0), (2, v1)] [(2, m (m v0 0) (m v0 1)), (2, v1)] kd m (zqV kd q)
  obtain ⟨ov, h⟩ := h
  obtain ⟨q1, hq, h⟩ := h
  refine EvX.callV (c := 1) (mc := 0) (ms := 0) (as := [(2, m (m v0 0) (m v0 1))]) (st := []) (by decide +kernel) l_Past_23 k_Game_become v_Game_become a_Game_become (by decide) (Nat.le_of_ble_eq_true rfl) rfl ov hq (fun r kd1 m3 hr => ?_)
  obtain ⟨rfl, hk, hr⟩ := hr
  subst kd1
  have h := h m3 hr
  show Ev (d + 1) M_Past_restore 0 0 39 [(2, v0), (2, v1)] [] kd m3 (zqV kd q)
  exact EvX.ret (r := zJ) (by decide +kernel) rfl ⟨rfl, rfl, h⟩
