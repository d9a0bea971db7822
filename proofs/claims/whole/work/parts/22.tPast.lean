/-! TREES of ApartGames$Past: by program (wip/whole/gen_trees.py) -/
set_option maxRecDepth 20000 in
set_option maxHeartbeats 1000000 in
theorem T_Past_remember_0 {d : Nat} {kd : ZK} {m : ZM} {q : ZM → Prop} {v0 v1 : Int} (h : (zobj kd v0 2 ∧ zobj kd v0 2 ∧ zIn kd (m v0 0) 3 (m v0 1) ∧ (zobj kd (m (m v0 0) (m v0 1)) 1 ∧ ∃ q1, CtV d M_Game_become [(2, m (m v0 0) (m v0 1)), (2, v1)] kd m q1 ∧ ∀ m3, q1 m3 → (zobj kd v0 2 ∧ zobj kd v0 2 ∧ zobj kd v0 2 ∧ (zobj kd v0 2 ∧ q (zup (zup m3 v0 1 (Int.tmod (iw ((m3 v0 1) + 1)) 10)) v0 2 (zmin (iw (((zup m3 v0 1 (Int.tmod (iw ((m3 v0 1) + 1)) 10)) v0 2) + 1)) 10))))))) : Ev (d + 1) M_Past_remember 0 0 0 [(2, v0), (2, v1)] [] kd m (zqV kd q) := by
  obtain ⟨o1, o2, o3, h⟩ := h
  refine EvX.blk (pc' := 10) [(.aload_n 0, 0, 0), (.getfield 10, 2, 0), (.aload_n 0, 0, 0), (.getfield 16, 2, 1), (.aaload, 0, 0), (.aload_n 1, 0, 0)] (by decide +kernel) ⟨g_Past_10, g_Past_16, trivial⟩ ⟨o1, o2, o3, ?_⟩
  show Ev (d + 1) M_Past_remember 0 0 10 [(2, v0), (2, v1)] [(2, v1), (2, m (m v0 0) (m v0 1))] kd m (zqV kd q)
  obtain ⟨ov, h⟩ := h
  obtain ⟨q1, hq, h⟩ := h
  refine EvX.callV (c := 1) (mc := 0) (ms := 0) (as := [(2, v1)]) (st := []) (by decide +kernel) l_Past_23 k_Game_become v_Game_become a_Game_become (by decide) (Nat.le_of_ble_eq_true rfl) rfl ov hq (fun r kd1 m3 hr => ?_)
  obtain ⟨rfl, hk, hr⟩ := hr
  subst kd1
  have h := h m3 hr
  show Ev (d + 1) M_Past_remember 0 0 13 [(2, v0), (2, v1)] [] kd m3 (zqV kd q)
  obtain ⟨o1, o2, o3, h⟩ := h
  refine EvX.blk (pc' := 35) [(.aload_n 0, 0, 0), (.aload_n 0, 0, 0), (.getfield 16, 2, 1), (.iconst 1, 0, 0), (.iadd, 0, 0), (.bipush 10, 0, 0), (.irem, 0, 0), (.putfield 16, 2, 1), (.aload_n 0, 0, 0), (.aload_n 0, 0, 0), (.getfield 20, 2, 2), (.iconst 1, 0, 0), (.iadd, 0, 0), (.bipush 10, 0, 0)] (by decide +kernel) ⟨g_Past_16, ⟨g_Past_16, p_Past_16⟩, g_Past_20, trivial⟩ ⟨o1, by decide, rfl, o2, o3, ?_⟩
  show Ev (d + 1) M_Past_remember 0 0 35 [(2, v0), (2, v1)] [(0, 10), (0, iw (((zup m3 v0 1 (Int.tmod (iw ((m3 v0 1) + 1)) 10)) v0 2) + 1)), (2, v0)] kd (zup m3 v0 1 (Int.tmod (iw ((m3 v0 1) + 1)) 10)) (zqV kd q)
  refine EvX.mmin' (by decide +kernel) y_Past_27 (Nat.le_of_ble_eq_true rfl) ?_
  show Ev (d + 1) M_Past_remember 0 0 38 [(2, v0), (2, v1)] [(0, zmin (iw (((zup m3 v0 1 (Int.tmod (iw ((m3 v0 1) + 1)) 10)) v0 2) + 1)) 10), (2, v0)] kd (zup m3 v0 1 (Int.tmod (iw ((m3 v0 1) + 1)) 10)) (zqV kd q)
  obtain ⟨o1, h⟩ := h
  refine EvX.blk (pc' := 41) [(.putfield 20, 2, 2)] (by decide +kernel) ⟨⟨g_Past_20, p_Past_20⟩, trivial⟩ ⟨rfl, o1, ?_⟩
  show Ev (d + 1) M_Past_remember 0 0 41 [(2, v0), (2, v1)] [] kd (zup (zup m3 v0 1 (Int.tmod (iw ((m3 v0 1) + 1)) 10)) v0 2 (zmin (iw (((zup m3 v0 1 (Int.tmod (iw ((m3 v0 1) + 1)) 10)) v0 2) + 1)) 10)) (zqV kd q)
  exact EvX.ret (r := zJ) (by decide +kernel) rfl ⟨rfl, rfl, h⟩
theorem S_Past_remember {d : Nat} {kd : ZK} {m : ZM} {q : ZM → Prop} {v0 v1 : Int} (h : (zobj kd v0 2 ∧ zobj kd v0 2 ∧ zIn kd (m v0 0) 3 (m v0 1) ∧ (zobj kd (m (m v0 0) (m v0 1)) 1 ∧ ∃ q1, CtV d M_Game_become [(2, m (m v0 0) (m v0 1)), (2, v1)] kd m q1 ∧ ∀ m3, q1 m3 → (zobj kd v0 2 ∧ zobj kd v0 2 ∧ zobj kd v0 2 ∧ (zobj kd v0 2 ∧ q (zup (zup m3 v0 1 (Int.tmod (iw ((m3 v0 1) + 1)) 10)) v0 2 (zmin (iw (((zup m3 v0 1 (Int.tmod (iw ((m3 v0 1) + 1)) 10)) v0 2) + 1)) 10))))))) : CtV (d + 1) M_Past_remember [(2, v0), (2, v1)] kd m q :=
  Ct.start k_Past_remember (Nat.le_of_ble_eq_true rfl) ⟨0, Or.inl ⟨rfl, rfl⟩⟩ (T_Past_remember_0 h)
set_option maxRecDepth 20000 in
set_option maxHeartbeats 1000000 in
theorem T_Past_restore_0 {d : Nat} {kd : ZK} {m : ZM} {q : ZM → Prop} {v0 v1 : Int} (h : (zobj kd v0 2 ∧ zobj kd v0 2 ∧ zobj kd v0 2 ∧ zobj kd v0 2 ∧ zobj kd v0 2 ∧ zobj kd v0 2 ∧ zIn kd ((zup (zup m v0 1 (Int.tmod (iw ((iw ((m v0 1) + 10)) - 1)) 10)) v0 2 (iw (((zup m v0 1 (Int.tmod (iw ((iw ((m v0 1) + 10)) - 1)) 10)) v0 2) - 1))) v0 0) 3 ((zup (zup m v0 1 (Int.tmod (iw ((iw ((m v0 1) + 10)) - 1)) 10)) v0 2 (iw (((zup m v0 1 (Int.tmod (iw ((iw ((m v0 1) + 10)) - 1)) 10)) v0 2) - 1))) v0 1) ∧ (zobj kd v1 1 ∧ ∃ q1, CtV d M_Game_become [(2, v1), (2, (zup (zup m v0 1 (Int.tmod (iw ((iw ((m v0 1) + 10)) - 1)) 10)) v0 2 (iw (((zup m v0 1 (Int.tmod (iw ((iw ((m v0 1) + 10)) - 1)) 10)) v0 2) - 1))) ((zup (zup m v0 1 (Int.tmod (iw ((iw ((m v0 1) + 10)) - 1)) 10)) v0 2 (iw (((zup m v0 1 (Int.tmod (iw ((iw ((m v0 1) + 10)) - 1)) 10)) v0 2) - 1))) v0 0) ((zup (zup m v0 1 (Int.tmod (iw ((iw ((m v0 1) + 10)) - 1)) 10)) v0 2 (iw (((zup m v0 1 (Int.tmod (iw ((iw ((m v0 1) + 10)) - 1)) 10)) v0 2) - 1))) v0 1))] kd (zup (zup m v0 1 (Int.tmod (iw ((iw ((m v0 1) + 10)) - 1)) 10)) v0 2 (iw (((zup m v0 1 (Int.tmod (iw ((iw ((m v0 1) + 10)) - 1)) 10)) v0 2) - 1))) q1 ∧ ∀ m3, q1 m3 → q m3))) : Ev (d + 1) M_Past_restore 0 0 0 [(2, v0), (2, v1)] [] kd m (zqV kd q) := by
  obtain ⟨o1, o2, o3, o4, o5, o6, o7, h⟩ := h
  refine EvX.blk (pc' := 36) [(.aload_n 0, 0, 0), (.aload_n 0, 0, 0), (.getfield 16, 2, 1), (.bipush 10, 0, 0), (.iadd, 0, 0), (.iconst 1, 0, 0), (.isub, 0, 0), (.bipush 10, 0, 0), (.irem, 0, 0), (.putfield 16, 2, 1), (.aload_n 0, 0, 0), (.dup, 0, 0), (.getfield 20, 2, 2), (.iconst 1, 0, 0), (.isub, 0, 0), (.putfield 20, 2, 2), (.aload_n 1, 0, 0), (.aload_n 0, 0, 0), (.getfield 10, 2, 0), (.aload_n 0, 0, 0), (.getfield 16, 2, 1), (.aaload, 0, 0)] (by decide +kernel) ⟨g_Past_16, ⟨g_Past_16, p_Past_16⟩, g_Past_20, ⟨g_Past_20, p_Past_20⟩, g_Past_10, g_Past_16, trivial⟩ ⟨o1, by decide, rfl, o2, o3, rfl, o4, o5, o6, o7, ?_⟩
  show Ev (d + 1) M_Past_restore 0 0 36 [(2, v0), (2, v1)] [(2, (zup (zup m v0 1 (Int.tmod (iw ((iw ((m v0 1) + 10)) - 1)) 10)) v0 2 (iw (((zup m v0 1 (Int.tmod (iw ((iw ((m v0 1) + 10)) - 1)) 10)) v0 2) - 1))) ((zup (zup m v0 1 (Int.tmod (iw ((iw ((m v0 1) + 10)) - 1)) 10)) v0 2 (iw (((zup m v0 1 (Int.tmod (iw ((iw ((m v0 1) + 10)) - 1)) 10)) v0 2) - 1))) v0 0) ((zup (zup m v0 1 (Int.tmod (iw ((iw ((m v0 1) + 10)) - 1)) 10)) v0 2 (iw (((zup m v0 1 (Int.tmod (iw ((iw ((m v0 1) + 10)) - 1)) 10)) v0 2) - 1))) v0 1)), (2, v1)] kd (zup (zup m v0 1 (Int.tmod (iw ((iw ((m v0 1) + 10)) - 1)) 10)) v0 2 (iw (((zup m v0 1 (Int.tmod (iw ((iw ((m v0 1) + 10)) - 1)) 10)) v0 2) - 1))) (zqV kd q)
  obtain ⟨ov, h⟩ := h
  obtain ⟨q1, hq, h⟩ := h
  refine EvX.callV (c := 1) (mc := 0) (ms := 0) (as := [(2, (zup (zup m v0 1 (Int.tmod (iw ((iw ((m v0 1) + 10)) - 1)) 10)) v0 2 (iw (((zup m v0 1 (Int.tmod (iw ((iw ((m v0 1) + 10)) - 1)) 10)) v0 2) - 1))) ((zup (zup m v0 1 (Int.tmod (iw ((iw ((m v0 1) + 10)) - 1)) 10)) v0 2 (iw (((zup m v0 1 (Int.tmod (iw ((iw ((m v0 1) + 10)) - 1)) 10)) v0 2) - 1))) v0 0) ((zup (zup m v0 1 (Int.tmod (iw ((iw ((m v0 1) + 10)) - 1)) 10)) v0 2 (iw (((zup m v0 1 (Int.tmod (iw ((iw ((m v0 1) + 10)) - 1)) 10)) v0 2) - 1))) v0 1))]) (st := []) (by decide +kernel) l_Past_23 k_Game_become v_Game_become a_Game_become (by decide) (Nat.le_of_ble_eq_true rfl) rfl ov hq (fun r kd1 m3 hr => ?_)
  obtain ⟨rfl, hk, hr⟩ := hr
  subst kd1
  have h := h m3 hr
  show Ev (d + 1) M_Past_restore 0 0 39 [(2, v0), (2, v1)] [] kd m3 (zqV kd q)
  exact EvX.ret (r := zJ) (by decide +kernel) rfl ⟨rfl, rfl, h⟩
theorem S_Past_restore {d : Nat} {kd : ZK} {m : ZM} {q : ZM → Prop} {v0 v1 : Int} (h : (zobj kd v0 2 ∧ zobj kd v0 2 ∧ zobj kd v0 2 ∧ zobj kd v0 2 ∧ zobj kd v0 2 ∧ zobj kd v0 2 ∧ zIn kd ((zup (zup m v0 1 (Int.tmod (iw ((iw ((m v0 1) + 10)) - 1)) 10)) v0 2 (iw (((zup m v0 1 (Int.tmod (iw ((iw ((m v0 1) + 10)) - 1)) 10)) v0 2) - 1))) v0 0) 3 ((zup (zup m v0 1 (Int.tmod (iw ((iw ((m v0 1) + 10)) - 1)) 10)) v0 2 (iw (((zup m v0 1 (Int.tmod (iw ((iw ((m v0 1) + 10)) - 1)) 10)) v0 2) - 1))) v0 1) ∧ (zobj kd v1 1 ∧ ∃ q1, CtV d M_Game_become [(2, v1), (2, (zup (zup m v0 1 (Int.tmod (iw ((iw ((m v0 1) + 10)) - 1)) 10)) v0 2 (iw (((zup m v0 1 (Int.tmod (iw ((iw ((m v0 1) + 10)) - 1)) 10)) v0 2) - 1))) ((zup (zup m v0 1 (Int.tmod (iw ((iw ((m v0 1) + 10)) - 1)) 10)) v0 2 (iw (((zup m v0 1 (Int.tmod (iw ((iw ((m v0 1) + 10)) - 1)) 10)) v0 2) - 1))) v0 0) ((zup (zup m v0 1 (Int.tmod (iw ((iw ((m v0 1) + 10)) - 1)) 10)) v0 2 (iw (((zup m v0 1 (Int.tmod (iw ((iw ((m v0 1) + 10)) - 1)) 10)) v0 2) - 1))) v0 1))] kd (zup (zup m v0 1 (Int.tmod (iw ((iw ((m v0 1) + 10)) - 1)) 10)) v0 2 (iw (((zup m v0 1 (Int.tmod (iw ((iw ((m v0 1) + 10)) - 1)) 10)) v0 2) - 1))) q1 ∧ ∀ m3, q1 m3 → q m3))) : CtV (d + 1) M_Past_restore [(2, v0), (2, v1)] kd m q :=
  Ct.start k_Past_restore (Nat.le_of_ble_eq_true rfl) ⟨0, Or.inl ⟨rfl, rfl⟩⟩ (T_Past_restore_0 h)
set_option maxRecDepth 20000 in
set_option maxHeartbeats 1000000 in
theorem T_Past_forget_0 {d : Nat} {kd : ZK} {m : ZM} {q : ZM → Prop} {v0 : Int} (h : (zobj kd v0 2 ∧ q (zup m v0 2 0))) : Ev (d + 1) M_Past_forget 0 0 0 [(2, v0)] [] kd m (zqV kd q) := by
  obtain ⟨o1, h⟩ := h
  refine EvX.blk (pc' := 5) [(.aload_n 0, 0, 0), (.iconst 0, 0, 0), (.putfield 20, 2, 2)] (by decide +kernel) ⟨⟨g_Past_20, p_Past_20⟩, trivial⟩ ⟨rfl, o1, ?_⟩
  show Ev (d + 1) M_Past_forget 0 0 5 [(2, v0)] [] kd (zup m v0 2 0) (zqV kd q)
  exact EvX.ret (r := zJ) (by decide +kernel) rfl ⟨rfl, rfl, h⟩
theorem S_Past_forget {d : Nat} {kd : ZK} {m : ZM} {q : ZM → Prop} {v0 : Int} (h : (zobj kd v0 2 ∧ q (zup m v0 2 0))) : CtV (d + 1) M_Past_forget [(2, v0)] kd m q :=
  Ct.start k_Past_forget (Nat.le_of_ble_eq_true rfl) ⟨0, Or.inl ⟨rfl, rfl⟩⟩ (T_Past_forget_0 h)
