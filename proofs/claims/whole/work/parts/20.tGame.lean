/-! TREES of ApartGames$Game: by program (wip/whole/gen_trees.py) -/
set_option maxRecDepth 20000 in
set_option maxHeartbeats 1000000 in
theorem T_Game_become_0 {d : Nat} {kd : ZK} {m : ZM} {q : ZM → Prop} {v0 v1 : Int} (h : (zobj kd v1 1 ∧ zobj kd v0 1 ∧ zobj kd v1 1 ∧ zobj kd v0 1 ∧ zobj kd v1 1 ∧ zobj kd v0 1 ∧ zobj kd v1 1 ∧ zobj kd v0 1 ∧ zobj kd v1 1 ∧ zobj kd v0 1 ∧ (∃ nb na : Nat, zarr kd ((zup (zup (zup (zup m v0 0 (m v1 0)) v0 1 ((zup m v0 0 (m v1 0)) v1 1)) v0 2 ((zup (zup m v0 0 (m v1 0)) v0 1 ((zup m v0 0 (m v1 0)) v1 1)) v1 2)) v0 3 ((zup (zup (zup m v0 0 (m v1 0)) v0 1 ((zup m v0 0 (m v1 0)) v1 1)) v0 2 ((zup (zup m v0 0 (m v1 0)) v0 1 ((zup m v0 0 (m v1 0)) v1 1)) v1 2)) v1 3)) v1 4) 0 nb ∧ zarr kd ((zup (zup (zup (zup m v0 0 (m v1 0)) v0 1 ((zup m v0 0 (m v1 0)) v1 1)) v0 2 ((zup (zup m v0 0 (m v1 0)) v0 1 ((zup m v0 0 (m v1 0)) v1 1)) v1 2)) v0 3 ((zup (zup (zup m v0 0 (m v1 0)) v0 1 ((zup m v0 0 (m v1 0)) v1 1)) v0 2 ((zup (zup m v0 0 (m v1 0)) v0 1 ((zup m v0 0 (m v1 0)) v1 1)) v1 2)) v1 3)) v0 4) 0 na ∧ (0 : Int) ≤ 0 ∧ (0 : Int) ≤ 0 ∧ (0 : Int) ≤ 25 ∧ (0 : Int) + 25 ≤ (nb : Int) ∧ (0 : Int) + 25 ≤ (na : Int) ∧ (zobj kd v1 1 ∧ zobj kd v0 1 ∧ (∃ nb na : Nat, zarr kd ((zcpy (zup (zup (zup (zup m v0 0 (m v1 0)) v0 1 ((zup m v0 0 (m v1 0)) v1 1)) v0 2 ((zup (zup m v0 0 (m v1 0)) v0 1 ((zup m v0 0 (m v1 0)) v1 1)) v1 2)) v0 3 ((zup (zup (zup m v0 0 (m v1 0)) v0 1 ((zup m v0 0 (m v1 0)) v1 1)) v0 2 ((zup (zup m v0 0 (m v1 0)) v0 1 ((zup m v0 0 (m v1 0)) v1 1)) v1 2)) v1 3)) ((zup (zup (zup (zup m v0 0 (m v1 0)) v0 1 ((zup m v0 0 (m v1 0)) v1 1)) v0 2 ((zup (zup m v0 0 (m v1 0)) v0 1 ((zup m v0 0 (m v1 0)) v1 1)) v1 2)) v0 3 ((zup (zup (zup m v0 0 (m v1 0)) v0 1 ((zup m v0 0 (m v1 0)) v1 1)) v0 2 ((zup (zup m v0 0 (m v1 0)) v0 1 ((zup m v0 0 (m v1 0)) v1 1)) v1 2)) v1 3)) v1 4) 0 ((zup (zup (zup (zup m v0 0 (m v1 0)) v0 1 ((zup m v0 0 (m v1 0)) v1 1)) v0 2 ((zup (zup m v0 0 (m v1 0)) v0 1 ((zup m v0 0 (m v1 0)) v1 1)) v1 2)) v0 3 ((zup (zup (zup m v0 0 (m v1 0)) v0 1 ((zup m v0 0 (m v1 0)) v1 1)) v0 2 ((zup (zup m v0 0 (m v1 0)) v0 1 ((zup m v0 0 (m v1 0)) v1 1)) v1 2)) v1 3)) v0 4) 0 25) v1 5) 0 nb ∧ zarr kd ((zcpy (zup (zup (zup (zup m v0 0 (m v1 0)) v0 1 ((zup m v0 0 (m v1 0)) v1 1)) v0 2 ((zup (zup m v0 0 (m v1 0)) v0 1 ((zup m v0 0 (m v1 0)) v1 1)) v1 2)) v0 3 ((zup (zup (zup m v0 0 (m v1 0)) v0 1 ((zup m v0 0 (m v1 0)) v1 1)) v0 2 ((zup (zup m v0 0 (m v1 0)) v0 1 ((zup m v0 0 (m v1 0)) v1 1)) v1 2)) v1 3)) ((zup (zup (zup (zup m v0 0 (m v1 0)) v0 1 ((zup m v0 0 (m v1 0)) v1 1)) v0 2 ((zup (zup m v0 0 (m v1 0)) v0 1 ((zup m v0 0 (m v1 0)) v1 1)) v1 2)) v0 3 ((zup (zup (zup m v0 0 (m v1 0)) v0 1 ((zup m v0 0 (m v1 0)) v1 1)) v0 2 ((zup (zup m v0 0 (m v1 0)) v0 1 ((zup m v0 0 (m v1 0)) v1 1)) v1 2)) v1 3)) v1 4) 0 ((zup (zup (zup (zup m v0 0 (m v1 0)) v0 1 ((zup m v0 0 (m v1 0)) v1 1)) v0 2 ((zup (zup m v0 0 (m v1 0)) v0 1 ((zup m v0 0 (m v1 0)) v1 1)) v1 2)) v0 3 ((zup (zup (zup m v0 0 (m v1 0)) v0 1 ((zup m v0 0 (m v1 0)) v1 1)) v0 2 ((zup (zup m v0 0 (m v1 0)) v0 1 ((zup m v0 0 (m v1 0)) v1 1)) v1 2)) v1 3)) v0 4) 0 25) v0 5) 0 na ∧ (0 : Int) ≤ 0 ∧ (0 : Int) ≤ 0 ∧ (0 : Int) ≤ 400 ∧ (0 : Int) + 400 ≤ (nb : Int) ∧ (0 : Int) + 400 ≤ (na : Int) ∧ (zobj kd v1 1 ∧ zobj kd v0 1 ∧ (∃ nb na : Nat, zarr kd ((zcpy (zcpy (zup (zup (zup (zup m v0 0 (m v1 0)) v0 1 ((zup m v0 0 (m v1 0)) v1 1)) v0 2 ((zup (zup m v0 0 (m v1 0)) v0 1 ((zup m v0 0 (m v1 0)) v1 1)) v1 2)) v0 3 ((zup (zup (zup m v0 0 (m v1 0)) v0 1 ((zup m v0 0 (m v1 0)) v1 1)) v0 2 ((zup (zup m v0 0 (m v1 0)) v0 1 ((zup m v0 0 (m v1 0)) v1 1)) v1 2)) v1 3)) ((zup (zup (zup (zup m v0 0 (m v1 0)) v0 1 ((zup m v0 0 (m v1 0)) v1 1)) v0 2 ((zup (zup m v0 0 (m v1 0)) v0 1 ((zup m v0 0 (m v1 0)) v1 1)) v1 2)) v0 3 ((zup (zup (zup m v0 0 (m v1 0)) v0 1 ((zup m v0 0 (m v1 0)) v1 1)) v0 2 ((zup (zup m v0 0 (m v1 0)) v0 1 ((zup m v0 0 (m v1 0)) v1 1)) v1 2)) v1 3)) v1 4) 0 ((zup (zup (zup (zup m v0 0 (m v1 0)) v0 1 ((zup m v0 0 (m v1 0)) v1 1)) v0 2 ((zup (zup m v0 0 (m v1 0)) v0 1 ((zup m v0 0 (m v1 0)) v1 1)) v1 2)) v0 3 ((zup (zup (zup m v0 0 (m v1 0)) v0 1 ((zup m v0 0 (m v1 0)) v1 1)) v0 2 ((zup (zup m v0 0 (m v1 0)) v0 1 ((zup m v0 0 (m v1 0)) v1 1)) v1 2)) v1 3)) v0 4) 0 25) ((zcpy (zup (zup (zup (zup m v0 0 (m v1 0)) v0 1 ((zup m v0 0 (m v1 0)) v1 1)) v0 2 ((zup (zup m v0 0 (m v1 0)) v0 1 ((zup m v0 0 (m v1 0)) v1 1)) v1 2)) v0 3 ((zup (zup (zup m v0 0 (m v1 0)) v0 1 ((zup m v0 0 (m v1 0)) v1 1)) v0 2 ((zup (zup m v0 0 (m v1 0)) v0 1 ((zup m v0 0 (m v1 0)) v1 1)) v1 2)) v1 3)) ((zup (zup (zup (zup m v0 0 (m v1 0)) v0 1 ((zup m v0 0 (m v1 0)) v1 1)) v0 2 ((zup (zup m v0 0 (m v1 0)) v0 1 ((zup m v0 0 (m v1 0)) v1 1)) v1 2)) v0 3 ((zup (zup (zup m v0 0 (m v1 0)) v0 1 ((zup m v0 0 (m v1 0)) v1 1)) v0 2 ((zup (zup m v0 0 (m v1 0)) v0 1 ((zup m v0 0 (m v1 0)) v1 1)) v1 2)) v1 3)) v1 4) 0 ((zup (zup (zup (zup m v0 0 (m v1 0)) v0 1 ((zup m v0 0 (m v1 0)) v1 1)) v0 2 ((zup (zup m v0 0 (m v1 0)) v0 1 ((zup m v0 0 (m v1 0)) v1 1)) v1 2)) v0 3 ((zup (zup (zup m v0 0 (m v1 0)) v0 1 ((zup m v0 0 (m v1 0)) v1 1)) v0 2 ((zup (zup m v0 0 (m v1 0)) v0 1 ((zup m v0 0 (m v1 0)) v1 1)) v1 2)) v1 3)) v0 4) 0 25) v1 5) 0 ((zcpy (zup (zup (zup (zup m v0 0 (m v1 0)) v0 1 ((zup m v0 0 (m v1 0)) v1 1)) v0 2 ((zup (zup m v0 0 (m v1 0)) v0 1 ((zup m v0 0 (m v1 0)) v1 1)) v1 2)) v0 3 ((zup (zup (zup m v0 0 (m v1 0)) v0 1 ((zup m v0 0 (m v1 0)) v1 1)) v0 2 ((zup (zup m v0 0 (m v1 0)) v0 1 ((zup m v0 0 (m v1 0)) v1 1)) v1 2)) v1 3)) ((zup (zup (zup (zup m v0 0 (m v1 0)) v0 1 ((zup m v0 0 (m v1 0)) v1 1)) v0 2 ((zup (zup m v0 0 (m v1 0)) v0 1 ((zup m v0 0 (m v1 0)) v1 1)) v1 2)) v0 3 ((zup (zup (zup m v0 0 (m v1 0)) v0 1 ((zup m v0 0 (m v1 0)) v1 1)) v0 2 ((zup (zup m v0 0 (m v1 0)) v0 1 ((zup m v0 0 (m v1 0)) v1 1)) v1 2)) v1 3)) v1 4) 0 ((zup (zup (zup (zup m v0 0 (m v1 0)) v0 1 ((zup m v0 0 (m v1 0)) v1 1)) v0 2 ((zup (zup m v0 0 (m v1 0)) v0 1 ((zup m v0 0 (m v1 0)) v1 1)) v1 2)) v0 3 ((zup (zup (zup m v0 0 (m v1 0)) v0 1 ((zup m v0 0 (m v1 0)) v1 1)) v0 2 ((zup (zup m v0 0 (m v1 0)) v0 1 ((zup m v0 0 (m v1 0)) v1 1)) v1 2)) v1 3)) v0 4) 0 25) v0 5) 0 400) v1 6) 0 nb ∧ zarr kd ((zcpy (zcpy (zup (zup (zup (zup m v0 0 (m v1 0)) v0 1 ((zup m v0 0 (m v1 0)) v1 1)) v0 2 ((zup (zup m v0 0 (m v1 0)) v0 1 ((zup m v0 0 (m v1 0)) v1 1)) v1 2)) v0 3 ((zup (zup (zup m v0 0 (m v1 0)) v0 1 ((zup m v0 0 (m v1 0)) v1 1)) v0 2 ((zup (zup m v0 0 (m v1 0)) v0 1 ((zup m v0 0 (m v1 0)) v1 1)) v1 2)) v1 3)) ((zup (zup (zup (zup m v0 0 (m v1 0)) v0 1 ((zup m v0 0 (m v1 0)) v1 1)) v0 2 ((zup (zup m v0 0 (m v1 0)) v0 1 ((zup m v0 0 (m v1 0)) v1 1)) v1 2)) v0 3 ((zup (zup (zup m v0 0 (m v1 0)) v0 1 ((zup m v0 0 (m v1 0)) v1 1)) v0 2 ((zup (zup m v0 0 (m v1 0)) v0 1 ((zup m v0 0 (m v1 0)) v1 1)) v1 2)) v1 3)) v1 4) 0 ((zup (zup (zup (zup m v0 0 (m v1 0)) v0 1 ((zup m v0 0 (m v1 0)) v1 1)) v0 2 ((zup (zup m v0 0 (m v1 0)) v0 1 ((zup m v0 0 (m v1 0)) v1 1)) v1 2)) v0 3 ((zup (zup (zup m v0 0 (m v1 0)) v0 1 ((zup m v0 0 (m v1 0)) v1 1)) v0 2 ((zup (zup m v0 0 (m v1 0)) v0 1 ((zup m v0 0 (m v1 0)) v1 1)) v1 2)) v1 3)) v0 4) 0 25) ((zcpy (zup (zup (zup (zup m v0 0 (m v1 0)) v0 1 ((zup m v0 0 (m v1 0)) v1 1)) v0 2 ((zup (zup m v0 0 (m v1 0)) v0 1 ((zup m v0 0 (m v1 0)) v1 1)) v1 2)) v0 3 ((zup (zup (zup m v0 0 (m v1 0)) v0 1 ((zup m v0 0 (m v1 0)) v1 1)) v0 2 ((zup (zup m v0 0 (m v1 0)) v0 1 ((zup m v0 0 (m v1 0)) v1 1)) v1 2)) v1 3)) ((zup (zup (zup (zup m v0 0 (m v1 0)) v0 1 ((zup m v0 0 (m v1 0)) v1 1)) v0 2 ((zup (zup m v0 0 (m v1 0)) v0 1 ((zup m v0 0 (m v1 0)) v1 1)) v1 2)) v0 3 ((zup (zup (zup m v0 0 (m v1 0)) v0 1 ((zup m v0 0 (m v1 0)) v1 1)) v0 2 ((zup (zup m v0 0 (m v1 0)) v0 1 ((zup m v0 0 (m v1 0)) v1 1)) v1 2)) v1 3)) v1 4) 0 ((zup (zup (zup (zup m v0 0 (m v1 0)) v0 1 ((zup m v0 0 (m v1 0)) v1 1)) v0 2 ((zup (zup m v0 0 (m v1 0)) v0 1 ((zup m v0 0 (m v1 0)) v1 1)) v1 2)) v0 3 ((zup (zup (zup m v0 0 (m v1 0)) v0 1 ((zup m v0 0 (m v1 0)) v1 1)) v0 2 ((zup (zup m v0 0 (m v1 0)) v0 1 ((zup m v0 0 (m v1 0)) v1 1)) v1 2)) v1 3)) v0 4) 0 25) v1 5) 0 ((zcpy (zup (zup (zup (zup m v0 0 (m v1 0)) v0 1 ((zup m v0 0 (m v1 0)) v1 1)) v0 2 ((zup (zup m v0 0 (m v1 0)) v0 1 ((zup m v0 0 (m v1 0)) v1 1)) v1 2)) v0 3 ((zup (zup (zup m v0 0 (m v1 0)) v0 1 ((zup m v0 0 (m v1 0)) v1 1)) v0 2 ((zup (zup m v0 0 (m v1 0)) v0 1 ((zup m v0 0 (m v1 0)) v1 1)) v1 2)) v1 3)) ((zup (zup (zup (zup m v0 0 (m v1 0)) v0 1 ((zup m v0 0 (m v1 0)) v1 1)) v0 2 ((zup (zup m v0 0 (m v1 0)) v0 1 ((zup m v0 0 (m v1 0)) v1 1)) v1 2)) v0 3 ((zup (zup (zup m v0 0 (m v1 0)) v0 1 ((zup m v0 0 (m v1 0)) v1 1)) v0 2 ((zup (zup m v0 0 (m v1 0)) v0 1 ((zup m v0 0 (m v1 0)) v1 1)) v1 2)) v1 3)) v1 4) 0 ((zup (zup (zup (zup m v0 0 (m v1 0)) v0 1 ((zup m v0 0 (m v1 0)) v1 1)) v0 2 ((zup (zup m v0 0 (m v1 0)) v0 1 ((zup m v0 0 (m v1 0)) v1 1)) v1 2)) v0 3 ((zup (zup (zup m v0 0 (m v1 0)) v0 1 ((zup m v0 0 (m v1 0)) v1 1)) v0 2 ((zup (zup m v0 0 (m v1 0)) v0 1 ((zup m v0 0 (m v1 0)) v1 1)) v1 2)) v1 3)) v0 4) 0 25) v0 5) 0 400) v0 6) 0 na ∧ (0 : Int) ≤ 0 ∧ (0 : Int) ≤ 0 ∧ (0 : Int) ≤ 400 ∧ (0 : Int) + 400 ≤ (nb : Int) ∧ (0 : Int) + 400 ≤ (na : Int) ∧ q (zcpy (zcpy (zcpy (zup (zup (zup (zup m v0 0 (m v1 0)) v0 1 ((zup m v0 0 (m v1 0)) v1 1)) v0 2 ((zup (zup m v0 0 (m v1 0)) v0 1 ((zup m v0 0 (m v1 0)) v1 1)) v1 2)) v0 3 ((zup (zup (zup m v0 0 (m v1 0)) v0 1 ((zup m v0 0 (m v1 0)) v1 1)) v0 2 ((zup (zup m v0 0 (m v1 0)) v0 1 ((zup m v0 0 (m v1 0)) v1 1)) v1 2)) v1 3)) ((zup (zup (zup (zup m v0 0 (m v1 0)) v0 1 ((zup m v0 0 (m v1 0)) v1 1)) v0 2 ((zup (zup m v0 0 (m v1 0)) v0 1 ((zup m v0 0 (m v1 0)) v1 1)) v1 2)) v0 3 ((zup (zup (zup m v0 0 (m v1 0)) v0 1 ((zup m v0 0 (m v1 0)) v1 1)) v0 2 ((zup (zup m v0 0 (m v1 0)) v0 1 ((zup m v0 0 (m v1 0)) v1 1)) v1 2)) v1 3)) v1 4) 0 ((zup (zup (zup (zup m v0 0 (m v1 0)) v0 1 ((zup m v0 0 (m v1 0)) v1 1)) v0 2 ((zup (zup m v0 0 (m v1 0)) v0 1 ((zup m v0 0 (m v1 0)) v1 1)) v1 2)) v0 3 ((zup (zup (zup m v0 0 (m v1 0)) v0 1 ((zup m v0 0 (m v1 0)) v1 1)) v0 2 ((zup (zup m v0 0 (m v1 0)) v0 1 ((zup m v0 0 (m v1 0)) v1 1)) v1 2)) v1 3)) v0 4) 0 25) ((zcpy (zup (zup (zup (zup m v0 0 (m v1 0)) v0 1 ((zup m v0 0 (m v1 0)) v1 1)) v0 2 ((zup (zup m v0 0 (m v1 0)) v0 1 ((zup m v0 0 (m v1 0)) v1 1)) v1 2)) v0 3 ((zup (zup (zup m v0 0 (m v1 0)) v0 1 ((zup m v0 0 (m v1 0)) v1 1)) v0 2 ((zup (zup m v0 0 (m v1 0)) v0 1 ((zup m v0 0 (m v1 0)) v1 1)) v1 2)) v1 3)) ((zup (zup (zup (zup m v0 0 (m v1 0)) v0 1 ((zup m v0 0 (m v1 0)) v1 1)) v0 2 ((zup (zup m v0 0 (m v1 0)) v0 1 ((zup m v0 0 (m v1 0)) v1 1)) v1 2)) v0 3 ((zup (zup (zup m v0 0 (m v1 0)) v0 1 ((zup m v0 0 (m v1 0)) v1 1)) v0 2 ((zup (zup m v0 0 (m v1 0)) v0 1 ((zup m v0 0 (m v1 0)) v1 1)) v1 2)) v1 3)) v1 4) 0 ((zup (zup (zup (zup m v0 0 (m v1 0)) v0 1 ((zup m v0 0 (m v1 0)) v1 1)) v0 2 ((zup (zup m v0 0 (m v1 0)) v0 1 ((zup m v0 0 (m v1 0)) v1 1)) v1 2)) v0 3 ((zup (zup (zup m v0 0 (m v1 0)) v0 1 ((zup m v0 0 (m v1 0)) v1 1)) v0 2 ((zup (zup m v0 0 (m v1 0)) v0 1 ((zup m v0 0 (m v1 0)) v1 1)) v1 2)) v1 3)) v0 4) 0 25) v1 5) 0 ((zcpy (zup (zup (zup (zup m v0 0 (m v1 0)) v0 1 ((zup m v0 0 (m v1 0)) v1 1)) v0 2 ((zup (zup m v0 0 (m v1 0)) v0 1 ((zup m v0 0 (m v1 0)) v1 1)) v1 2)) v0 3 ((zup (zup (zup m v0 0 (m v1 0)) v0 1 ((zup m v0 0 (m v1 0)) v1 1)) v0 2 ((zup (zup m v0 0 (m v1 0)) v0 1 ((zup m v0 0 (m v1 0)) v1 1)) v1 2)) v1 3)) ((zup (zup (zup (zup m v0 0 (m v1 0)) v0 1 ((zup m v0 0 (m v1 0)) v1 1)) v0 2 ((zup (zup m v0 0 (m v1 0)) v0 1 ((zup m v0 0 (m v1 0)) v1 1)) v1 2)) v0 3 ((zup (zup (zup m v0 0 (m v1 0)) v0 1 ((zup m v0 0 (m v1 0)) v1 1)) v0 2 ((zup (zup m v0 0 (m v1 0)) v0 1 ((zup m v0 0 (m v1 0)) v1 1)) v1 2)) v1 3)) v1 4) 0 ((zup (zup (zup (zup m v0 0 (m v1 0)) v0 1 ((zup m v0 0 (m v1 0)) v1 1)) v0 2 ((zup (zup m v0 0 (m v1 0)) v0 1 ((zup m v0 0 (m v1 0)) v1 1)) v1 2)) v0 3 ((zup (zup (zup m v0 0 (m v1 0)) v0 1 ((zup m v0 0 (m v1 0)) v1 1)) v0 2 ((zup (zup m v0 0 (m v1 0)) v0 1 ((zup m v0 0 (m v1 0)) v1 1)) v1 2)) v1 3)) v0 4) 0 25) v0 5) 0 400) ((zcpy (zcpy (zup (zup (zup (zup m v0 0 (m v1 0)) v0 1 ((zup m v0 0 (m v1 0)) v1 1)) v0 2 ((zup (zup m v0 0 (m v1 0)) v0 1 ((zup m v0 0 (m v1 0)) v1 1)) v1 2)) v0 3 ((zup (zup (zup m v0 0 (m v1 0)) v0 1 ((zup m v0 0 (m v1 0)) v1 1)) v0 2 ((zup (zup m v0 0 (m v1 0)) v0 1 ((zup m v0 0 (m v1 0)) v1 1)) v1 2)) v1 3)) ((zup (zup (zup (zup m v0 0 (m v1 0)) v0 1 ((zup m v0 0 (m v1 0)) v1 1)) v0 2 ((zup (zup m v0 0 (m v1 0)) v0 1 ((zup m v0 0 (m v1 0)) v1 1)) v1 2)) v0 3 ((zup (zup (zup m v0 0 (m v1 0)) v0 1 ((zup m v0 0 (m v1 0)) v1 1)) v0 2 ((zup (zup m v0 0 (m v1 0)) v0 1 ((zup m v0 0 (m v1 0)) v1 1)) v1 2)) v1 3)) v1 4) 0 ((zup (zup (zup (zup m v0 0 (m v1 0)) v0 1 ((zup m v0 0 (m v1 0)) v1 1)) v0 2 ((zup (zup m v0 0 (m v1 0)) v0 1 ((zup m v0 0 (m v1 0)) v1 1)) v1 2)) v0 3 ((zup (zup (zup m v0 0 (m v1 0)) v0 1 ((zup m v0 0 (m v1 0)) v1 1)) v0 2 ((zup (zup m v0 0 (m v1 0)) v0 1 ((zup m v0 0 (m v1 0)) v1 1)) v1 2)) v1 3)) v0 4) 0 25) ((zcpy (zup (zup (zup (zup m v0 0 (m v1 0)) v0 1 ((zup m v0 0 (m v1 0)) v1 1)) v0 2 ((zup (zup m v0 0 (m v1 0)) v0 1 ((zup m v0 0 (m v1 0)) v1 1)) v1 2)) v0 3 ((zup (zup (zup m v0 0 (m v1 0)) v0 1 ((zup m v0 0 (m v1 0)) v1 1)) v0 2 ((zup (zup m v0 0 (m v1 0)) v0 1 ((zup m v0 0 (m v1 0)) v1 1)) v1 2)) v1 3)) ((zup (zup (zup (zup m v0 0 (m v1 0)) v0 1 ((zup m v0 0 (m v1 0)) v1 1)) v0 2 ((zup (zup m v0 0 (m v1 0)) v0 1 ((zup m v0 0 (m v1 0)) v1 1)) v1 2)) v0 3 ((zup (zup (zup m v0 0 (m v1 0)) v0 1 ((zup m v0 0 (m v1 0)) v1 1)) v0 2 ((zup (zup m v0 0 (m v1 0)) v0 1 ((zup m v0 0 (m v1 0)) v1 1)) v1 2)) v1 3)) v1 4) 0 ((zup (zup (zup (zup m v0 0 (m v1 0)) v0 1 ((zup m v0 0 (m v1 0)) v1 1)) v0 2 ((zup (zup m v0 0 (m v1 0)) v0 1 ((zup m v0 0 (m v1 0)) v1 1)) v1 2)) v0 3 ((zup (zup (zup m v0 0 (m v1 0)) v0 1 ((zup m v0 0 (m v1 0)) v1 1)) v0 2 ((zup (zup m v0 0 (m v1 0)) v0 1 ((zup m v0 0 (m v1 0)) v1 1)) v1 2)) v1 3)) v0 4) 0 25) v1 5) 0 ((zcpy (zup (zup (zup (zup m v0 0 (m v1 0)) v0 1 ((zup m v0 0 (m v1 0)) v1 1)) v0 2 ((zup (zup m v0 0 (m v1 0)) v0 1 ((zup m v0 0 (m v1 0)) v1 1)) v1 2)) v0 3 ((zup (zup (zup m v0 0 (m v1 0)) v0 1 ((zup m v0 0 (m v1 0)) v1 1)) v0 2 ((zup (zup m v0 0 (m v1 0)) v0 1 ((zup m v0 0 (m v1 0)) v1 1)) v1 2)) v1 3)) ((zup (zup (zup (zup m v0 0 (m v1 0)) v0 1 ((zup m v0 0 (m v1 0)) v1 1)) v0 2 ((zup (zup m v0 0 (m v1 0)) v0 1 ((zup m v0 0 (m v1 0)) v1 1)) v1 2)) v0 3 ((zup (zup (zup m v0 0 (m v1 0)) v0 1 ((zup m v0 0 (m v1 0)) v1 1)) v0 2 ((zup (zup m v0 0 (m v1 0)) v0 1 ((zup m v0 0 (m v1 0)) v1 1)) v1 2)) v1 3)) v1 4) 0 ((zup (zup (zup (zup m v0 0 (m v1 0)) v0 1 ((zup m v0 0 (m v1 0)) v1 1)) v0 2 ((zup (zup m v0 0 (m v1 0)) v0 1 ((zup m v0 0 (m v1 0)) v1 1)) v1 2)) v0 3 ((zup (zup (zup m v0 0 (m v1 0)) v0 1 ((zup m v0 0 (m v1 0)) v1 1)) v0 2 ((zup (zup m v0 0 (m v1 0)) v0 1 ((zup m v0 0 (m v1 0)) v1 1)) v1 2)) v1 3)) v0 4) 0 25) v0 5) 0 400) v1 6) 0 ((zcpy (zcpy (zup (zup (zup (zup m v0 0 (m v1 0)) v0 1 ((zup m v0 0 (m v1 0)) v1 1)) v0 2 ((zup (zup m v0 0 (m v1 0)) v0 1 ((zup m v0 0 (m v1 0)) v1 1)) v1 2)) v0 3 ((zup (zup (zup m v0 0 (m v1 0)) v0 1 ((zup m v0 0 (m v1 0)) v1 1)) v0 2 ((zup (zup m v0 0 (m v1 0)) v0 1 ((zup m v0 0 (m v1 0)) v1 1)) v1 2)) v1 3)) ((zup (zup (zup (zup m v0 0 (m v1 0)) v0 1 ((zup m v0 0 (m v1 0)) v1 1)) v0 2 ((zup (zup m v0 0 (m v1 0)) v0 1 ((zup m v0 0 (m v1 0)) v1 1)) v1 2)) v0 3 ((zup (zup (zup m v0 0 (m v1 0)) v0 1 ((zup m v0 0 (m v1 0)) v1 1)) v0 2 ((zup (zup m v0 0 (m v1 0)) v0 1 ((zup m v0 0 (m v1 0)) v1 1)) v1 2)) v1 3)) v1 4) 0 ((zup (zup (zup (zup m v0 0 (m v1 0)) v0 1 ((zup m v0 0 (m v1 0)) v1 1)) v0 2 ((zup (zup m v0 0 (m v1 0)) v0 1 ((zup m v0 0 (m v1 0)) v1 1)) v1 2)) v0 3 ((zup (zup (zup m v0 0 (m v1 0)) v0 1 ((zup m v0 0 (m v1 0)) v1 1)) v0 2 ((zup (zup m v0 0 (m v1 0)) v0 1 ((zup m v0 0 (m v1 0)) v1 1)) v1 2)) v1 3)) v0 4) 0 25) ((zcpy (zup (zup (zup (zup m v0 0 (m v1 0)) v0 1 ((zup m v0 0 (m v1 0)) v1 1)) v0 2 ((zup (zup m v0 0 (m v1 0)) v0 1 ((zup m v0 0 (m v1 0)) v1 1)) v1 2)) v0 3 ((zup (zup (zup m v0 0 (m v1 0)) v0 1 ((zup m v0 0 (m v1 0)) v1 1)) v0 2 ((zup (zup m v0 0 (m v1 0)) v0 1 ((zup m v0 0 (m v1 0)) v1 1)) v1 2)) v1 3)) ((zup (zup (zup (zup m v0 0 (m v1 0)) v0 1 ((zup m v0 0 (m v1 0)) v1 1)) v0 2 ((zup (zup m v0 0 (m v1 0)) v0 1 ((zup m v0 0 (m v1 0)) v1 1)) v1 2)) v0 3 ((zup (zup (zup m v0 0 (m v1 0)) v0 1 ((zup m v0 0 (m v1 0)) v1 1)) v0 2 ((zup (zup m v0 0 (m v1 0)) v0 1 ((zup m v0 0 (m v1 0)) v1 1)) v1 2)) v1 3)) v1 4) 0 ((zup (zup (zup (zup m v0 0 (m v1 0)) v0 1 ((zup m v0 0 (m v1 0)) v1 1)) v0 2 ((zup (zup m v0 0 (m v1 0)) v0 1 ((zup m v0 0 (m v1 0)) v1 1)) v1 2)) v0 3 ((zup (zup (zup m v0 0 (m v1 0)) v0 1 ((zup m v0 0 (m v1 0)) v1 1)) v0 2 ((zup (zup m v0 0 (m v1 0)) v0 1 ((zup m v0 0 (m v1 0)) v1 1)) v1 2)) v1 3)) v0 4) 0 25) v1 5) 0 ((zcpy (zup (zup (zup (zup m v0 0 (m v1 0)) v0 1 ((zup m v0 0 (m v1 0)) v1 1)) v0 2 ((zup (zup m v0 0 (m v1 0)) v0 1 ((zup m v0 0 (m v1 0)) v1 1)) v1 2)) v0 3 ((zup (zup (zup m v0 0 (m v1 0)) v0 1 ((zup m v0 0 (m v1 0)) v1 1)) v0 2 ((zup (zup m v0 0 (m v1 0)) v0 1 ((zup m v0 0 (m v1 0)) v1 1)) v1 2)) v1 3)) ((zup (zup (zup (zup m v0 0 (m v1 0)) v0 1 ((zup m v0 0 (m v1 0)) v1 1)) v0 2 ((zup (zup m v0 0 (m v1 0)) v0 1 ((zup m v0 0 (m v1 0)) v1 1)) v1 2)) v0 3 ((zup (zup (zup m v0 0 (m v1 0)) v0 1 ((zup m v0 0 (m v1 0)) v1 1)) v0 2 ((zup (zup m v0 0 (m v1 0)) v0 1 ((zup m v0 0 (m v1 0)) v1 1)) v1 2)) v1 3)) v1 4) 0 ((zup (zup (zup (zup m v0 0 (m v1 0)) v0 1 ((zup m v0 0 (m v1 0)) v1 1)) v0 2 ((zup (zup m v0 0 (m v1 0)) v0 1 ((zup m v0 0 (m v1 0)) v1 1)) v1 2)) v0 3 ((zup (zup (zup m v0 0 (m v1 0)) v0 1 ((zup m v0 0 (m v1 0)) v1 1)) v0 2 ((zup (zup m v0 0 (m v1 0)) v0 1 ((zup m v0 0 (m v1 0)) v1 1)) v1 2)) v1 3)) v0 4) 0 25) v0 5) 0 400) v0 6) 0 400)))))))) : Ev (d + 1) M_Game_become 0 0 0 [(2, v0), (2, v1)] [] kd m (zqV kd q) := by
  obtain ⟨o1, o2, o3, o4, o5, o6, o7, o8, o9, o10, h⟩ := h
  refine EvX.blk (pc' := 44) [(.aload_n 0, 0, 0), (.aload_n 1, 0, 0), (.getfield 11, 1, 0), (.putfield 11, 1, 0), (.aload_n 0, 0, 0), (.aload_n 1, 0, 0), (.getfield 15, 1, 1), (.putfield 15, 1, 1), (.aload_n 0, 0, 0), (.aload_n 1, 0, 0), (.getfield 18, 1, 2), (.putfield 18, 1, 2), (.aload_n 0, 0, 0), (.aload_n 1, 0, 0), (.getfield 21, 1, 3), (.putfield 21, 1, 3), (.aload_n 1, 0, 0), (.getfield 24, 1, 4), (.iconst 0, 0, 0), (.aload_n 0, 0, 0), (.getfield 24, 1, 4), (.iconst 0, 0, 0), (.bipush 25, 0, 0)] (by decide +kernel) ⟨g_Game_11, ⟨g_Game_11, p_Game_11⟩, g_Game_15, ⟨g_Game_15, p_Game_15⟩, g_Game_18, ⟨g_Game_18, p_Game_18⟩, g_Game_21, ⟨g_Game_21, p_Game_21⟩, g_Game_24, g_Game_24, trivial⟩ ⟨o1, rfl, o2, o3, rfl, o4, o5, rfl, o6, o7, rfl, o8, o9, o10, ?_⟩
  show Ev (d + 1) M_Game_become 0 0 44 [(2, v0), (2, v1)] [(0, 25), (0, 0), (2, (zup (zup (zup (zup m v0 0 (m v1 0)) v0 1 ((zup m v0 0 (m v1 0)) v1 1)) v0 2 ((zup (zup m v0 0 (m v1 0)) v0 1 ((zup m v0 0 (m v1 0)) v1 1)) v1 2)) v0 3 ((zup (zup (zup m v0 0 (m v1 0)) v0 1 ((zup m v0 0 (m v1 0)) v1 1)) v0 2 ((zup (zup m v0 0 (m v1 0)) v0 1 ((zup m v0 0 (m v1 0)) v1 1)) v1 2)) v1 3)) v0 4), (0, 0), (2, (zup (zup (zup (zup m v0 0 (m v1 0)) v0 1 ((zup m v0 0 (m v1 0)) v1 1)) v0 2 ((zup (zup m v0 0 (m v1 0)) v0 1 ((zup m v0 0 (m v1 0)) v1 1)) v1 2)) v0 3 ((zup (zup (zup m v0 0 (m v1 0)) v0 1 ((zup m v0 0 (m v1 0)) v1 1)) v0 2 ((zup (zup m v0 0 (m v1 0)) v0 1 ((zup m v0 0 (m v1 0)) v1 1)) v1 2)) v1 3)) v1 4)] kd (zup (zup (zup (zup m v0 0 (m v1 0)) v0 1 ((zup m v0 0 (m v1 0)) v1 1)) v0 2 ((zup (zup m v0 0 (m v1 0)) v0 1 ((zup m v0 0 (m v1 0)) v1 1)) v1 2)) v0 3 ((zup (zup (zup m v0 0 (m v1 0)) v0 1 ((zup m v0 0 (m v1 0)) v1 1)) v0 2 ((zup (zup m v0 0 (m v1 0)) v0 1 ((zup m v0 0 (m v1 0)) v1 1)) v1 2)) v1 3)) (zqV kd q)
  obtain ⟨nb, na, ob, oa, o1, o2, o3, o4, o5, h⟩ := h
  refine EvX.acopy' (by decide +kernel) y_Game_34 ob oa o1 o2 o3 o4 o5 (Nat.le_of_ble_eq_true rfl) ?_
  show Ev (d + 1) M_Game_become 0 0 47 [(2, v0), (2, v1)] [] kd (zcpy (zup (zup (zup (zup m v0 0 (m v1 0)) v0 1 ((zup m v0 0 (m v1 0)) v1 1)) v0 2 ((zup (zup m v0 0 (m v1 0)) v0 1 ((zup m v0 0 (m v1 0)) v1 1)) v1 2)) v0 3 ((zup (zup (zup m v0 0 (m v1 0)) v0 1 ((zup m v0 0 (m v1 0)) v1 1)) v0 2 ((zup (zup m v0 0 (m v1 0)) v0 1 ((zup m v0 0 (m v1 0)) v1 1)) v1 2)) v1 3)) ((zup (zup (zup (zup m v0 0 (m v1 0)) v0 1 ((zup m v0 0 (m v1 0)) v1 1)) v0 2 ((zup (zup m v0 0 (m v1 0)) v0 1 ((zup m v0 0 (m v1 0)) v1 1)) v1 2)) v0 3 ((zup (zup (zup m v0 0 (m v1 0)) v0 1 ((zup m v0 0 (m v1 0)) v1 1)) v0 2 ((zup (zup m v0 0 (m v1 0)) v0 1 ((zup m v0 0 (m v1 0)) v1 1)) v1 2)) v1 3)) v1 4) 0 ((zup (zup (zup (zup m v0 0 (m v1 0)) v0 1 ((zup m v0 0 (m v1 0)) v1 1)) v0 2 ((zup (zup m v0 0 (m v1 0)) v0 1 ((zup m v0 0 (m v1 0)) v1 1)) v1 2)) v0 3 ((zup (zup (zup m v0 0 (m v1 0)) v0 1 ((zup m v0 0 (m v1 0)) v1 1)) v0 2 ((zup (zup m v0 0 (m v1 0)) v0 1 ((zup m v0 0 (m v1 0)) v1 1)) v1 2)) v1 3)) v0 4) 0 25) (zqV kd q)
  obtain ⟨o1, o2, h⟩ := h
  refine EvX.blk (pc' := 60) [(.aload_n 1, 0, 0), (.getfield 28, 1, 5), (.iconst 0, 0, 0), (.aload_n 0, 0, 0), (.getfield 28, 1, 5), (.iconst 0, 0, 0), (.sipush 400, 0, 0)] (by decide +kernel) ⟨g_Game_28, g_Game_28, trivial⟩ ⟨o1, o2, ?_⟩
  show Ev (d + 1) M_Game_become 0 0 60 [(2, v0), (2, v1)] [(0, 400), (0, 0), (2, (zcpy (zup (zup (zup (zup m v0 0 (m v1 0)) v0 1 ((zup m v0 0 (m v1 0)) v1 1)) v0 2 ((zup (zup m v0 0 (m v1 0)) v0 1 ((zup m v0 0 (m v1 0)) v1 1)) v1 2)) v0 3 ((zup (zup (zup m v0 0 (m v1 0)) v0 1 ((zup m v0 0 (m v1 0)) v1 1)) v0 2 ((zup (zup m v0 0 (m v1 0)) v0 1 ((zup m v0 0 (m v1 0)) v1 1)) v1 2)) v1 3)) ((zup (zup (zup (zup m v0 0 (m v1 0)) v0 1 ((zup m v0 0 (m v1 0)) v1 1)) v0 2 ((zup (zup m v0 0 (m v1 0)) v0 1 ((zup m v0 0 (m v1 0)) v1 1)) v1 2)) v0 3 ((zup (zup (zup m v0 0 (m v1 0)) v0 1 ((zup m v0 0 (m v1 0)) v1 1)) v0 2 ((zup (zup m v0 0 (m v1 0)) v0 1 ((zup m v0 0 (m v1 0)) v1 1)) v1 2)) v1 3)) v1 4) 0 ((zup (zup (zup (zup m v0 0 (m v1 0)) v0 1 ((zup m v0 0 (m v1 0)) v1 1)) v0 2 ((zup (zup m v0 0 (m v1 0)) v0 1 ((zup m v0 0 (m v1 0)) v1 1)) v1 2)) v0 3 ((zup (zup (zup m v0 0 (m v1 0)) v0 1 ((zup m v0 0 (m v1 0)) v1 1)) v0 2 ((zup (zup m v0 0 (m v1 0)) v0 1 ((zup m v0 0 (m v1 0)) v1 1)) v1 2)) v1 3)) v0 4) 0 25) v0 5), (0, 0), (2, (zcpy (zup (zup (zup (zup m v0 0 (m v1 0)) v0 1 ((zup m v0 0 (m v1 0)) v1 1)) v0 2 ((zup (zup m v0 0 (m v1 0)) v0 1 ((zup m v0 0 (m v1 0)) v1 1)) v1 2)) v0 3 ((zup (zup (zup m v0 0 (m v1 0)) v0 1 ((zup m v0 0 (m v1 0)) v1 1)) v0 2 ((zup (zup m v0 0 (m v1 0)) v0 1 ((zup m v0 0 (m v1 0)) v1 1)) v1 2)) v1 3)) ((zup (zup (zup (zup m v0 0 (m v1 0)) v0 1 ((zup m v0 0 (m v1 0)) v1 1)) v0 2 ((zup (zup m v0 0 (m v1 0)) v0 1 ((zup m v0 0 (m v1 0)) v1 1)) v1 2)) v0 3 ((zup (zup (zup m v0 0 (m v1 0)) v0 1 ((zup m v0 0 (m v1 0)) v1 1)) v0 2 ((zup (zup m v0 0 (m v1 0)) v0 1 ((zup m v0 0 (m v1 0)) v1 1)) v1 2)) v1 3)) v1 4) 0 ((zup (zup (zup (zup m v0 0 (m v1 0)) v0 1 ((zup m v0 0 (m v1 0)) v1 1)) v0 2 ((zup (zup m v0 0 (m v1 0)) v0 1 ((zup m v0 0 (m v1 0)) v1 1)) v1 2)) v0 3 ((zup (zup (zup m v0 0 (m v1 0)) v0 1 ((zup m v0 0 (m v1 0)) v1 1)) v0 2 ((zup (zup m v0 0 (m v1 0)) v0 1 ((zup m v0 0 (m v1 0)) v1 1)) v1 2)) v1 3)) v0 4) 0 25) v1 5)] kd (zcpy (zup (zup (zup (zup m v0 0 (m v1 0)) v0 1 ((zup m v0 0 (m v1 0)) v1 1)) v0 2 ((zup (zup m v0 0 (m v1 0)) v0 1 ((zup m v0 0 (m v1 0)) v1 1)) v1 2)) v0 3 ((zup (zup (zup m v0 0 (m v1 0)) v0 1 ((zup m v0 0 (m v1 0)) v1 1)) v0 2 ((zup (zup m v0 0 (m v1 0)) v0 1 ((zup m v0 0 (m v1 0)) v1 1)) v1 2)) v1 3)) ((zup (zup (zup (zup m v0 0 (m v1 0)) v0 1 ((zup m v0 0 (m v1 0)) v1 1)) v0 2 ((zup (zup m v0 0 (m v1 0)) v0 1 ((zup m v0 0 (m v1 0)) v1 1)) v1 2)) v0 3 ((zup (zup (zup m v0 0 (m v1 0)) v0 1 ((zup m v0 0 (m v1 0)) v1 1)) v0 2 ((zup (zup m v0 0 (m v1 0)) v0 1 ((zup m v0 0 (m v1 0)) v1 1)) v1 2)) v1 3)) v1 4) 0 ((zup (zup (zup (zup m v0 0 (m v1 0)) v0 1 ((zup m v0 0 (m v1 0)) v1 1)) v0 2 ((zup (zup m v0 0 (m v1 0)) v0 1 ((zup m v0 0 (m v1 0)) v1 1)) v1 2)) v0 3 ((zup (zup (zup m v0 0 (m v1 0)) v0 1 ((zup m v0 0 (m v1 0)) v1 1)) v0 2 ((zup (zup m v0 0 (m v1 0)) v0 1 ((zup m v0 0 (m v1 0)) v1 1)) v1 2)) v1 3)) v0 4) 0 25) (zqV kd q)
  obtain ⟨nb, na, ob, oa, o1, o2, o3, o4, o5, h⟩ := h
  refine EvX.acopy' (by decide +kernel) y_Game_34 ob oa o1 o2 o3 o4 o5 (Nat.le_of_ble_eq_true rfl) ?_
  show Ev (d + 1) M_Game_become 0 0 63 [(2, v0), (2, v1)] [] kd (zcpy (zcpy (zup (zup (zup (zup m v0 0 (m v1 0)) v0 1 ((zup m v0 0 (m v1 0)) v1 1)) v0 2 ((zup (zup m v0 0 (m v1 0)) v0 1 ((zup m v0 0 (m v1 0)) v1 1)) v1 2)) v0 3 ((zup (zup (zup m v0 0 (m v1 0)) v0 1 ((zup m v0 0 (m v1 0)) v1 1)) v0 2 ((zup (zup m v0 0 (m v1 0)) v0 1 ((zup m v0 0 (m v1 0)) v1 1)) v1 2)) v1 3)) ((zup (zup (zup (zup m v0 0 (m v1 0)) v0 1 ((zup m v0 0 (m v1 0)) v1 1)) v0 2 ((zup (zup m v0 0 (m v1 0)) v0 1 ((zup m v0 0 (m v1 0)) v1 1)) v1 2)) v0 3 ((zup (zup (zup m v0 0 (m v1 0)) v0 1 ((zup m v0 0 (m v1 0)) v1 1)) v0 2 ((zup (zup m v0 0 (m v1 0)) v0 1 ((zup m v0 0 (m v1 0)) v1 1)) v1 2)) v1 3)) v1 4) 0 ((zup (zup (zup (zup m v0 0 (m v1 0)) v0 1 ((zup m v0 0 (m v1 0)) v1 1)) v0 2 ((zup (zup m v0 0 (m v1 0)) v0 1 ((zup m v0 0 (m v1 0)) v1 1)) v1 2)) v0 3 ((zup (zup (zup m v0 0 (m v1 0)) v0 1 ((zup m v0 0 (m v1 0)) v1 1)) v0 2 ((zup (zup m v0 0 (m v1 0)) v0 1 ((zup m v0 0 (m v1 0)) v1 1)) v1 2)) v1 3)) v0 4) 0 25) ((zcpy (zup (zup (zup (zup m v0 0 (m v1 0)) v0 1 ((zup m v0 0 (m v1 0)) v1 1)) v0 2 ((zup (zup m v0 0 (m v1 0)) v0 1 ((zup m v0 0 (m v1 0)) v1 1)) v1 2)) v0 3 ((zup (zup (zup m v0 0 (m v1 0)) v0 1 ((zup m v0 0 (m v1 0)) v1 1)) v0 2 ((zup (zup m v0 0 (m v1 0)) v0 1 ((zup m v0 0 (m v1 0)) v1 1)) v1 2)) v1 3)) ((zup (zup (zup (zup m v0 0 (m v1 0)) v0 1 ((zup m v0 0 (m v1 0)) v1 1)) v0 2 ((zup (zup m v0 0 (m v1 0)) v0 1 ((zup m v0 0 (m v1 0)) v1 1)) v1 2)) v0 3 ((zup (zup (zup m v0 0 (m v1 0)) v0 1 ((zup m v0 0 (m v1 0)) v1 1)) v0 2 ((zup (zup m v0 0 (m v1 0)) v0 1 ((zup m v0 0 (m v1 0)) v1 1)) v1 2)) v1 3)) v1 4) 0 ((zup (zup (zup (zup m v0 0 (m v1 0)) v0 1 ((zup m v0 0 (m v1 0)) v1 1)) v0 2 ((zup (zup m v0 0 (m v1 0)) v0 1 ((zup m v0 0 (m v1 0)) v1 1)) v1 2)) v0 3 ((zup (zup (zup m v0 0 (m v1 0)) v0 1 ((zup m v0 0 (m v1 0)) v1 1)) v0 2 ((zup (zup m v0 0 (m v1 0)) v0 1 ((zup m v0 0 (m v1 0)) v1 1)) v1 2)) v1 3)) v0 4) 0 25) v1 5) 0 ((zcpy (zup (zup (zup (zup m v0 0 (m v1 0)) v0 1 ((zup m v0 0 (m v1 0)) v1 1)) v0 2 ((zup (zup m v0 0 (m v1 0)) v0 1 ((zup m v0 0 (m v1 0)) v1 1)) v1 2)) v0 3 ((zup (zup (zup m v0 0 (m v1 0)) v0 1 ((zup m v0 0 (m v1 0)) v1 1)) v0 2 ((zup (zup m v0 0 (m v1 0)) v0 1 ((zup m v0 0 (m v1 0)) v1 1)) v1 2)) v1 3)) ((zup (zup (zup (zup m v0 0 (m v1 0)) v0 1 ((zup m v0 0 (m v1 0)) v1 1)) v0 2 ((zup (zup m v0 0 (m v1 0)) v0 1 ((zup m v0 0 (m v1 0)) v1 1)) v1 2)) v0 3 ((zup (zup (zup m v0 0 (m v1 0)) v0 1 ((zup m v0 0 (m v1 0)) v1 1)) v0 2 ((zup (zup m v0 0 (m v1 0)) v0 1 ((zup m v0 0 (m v1 0)) v1 1)) v1 2)) v1 3)) v1 4) 0 ((zup (zup (zup (zup m v0 0 (m v1 0)) v0 1 ((zup m v0 0 (m v1 0)) v1 1)) v0 2 ((zup (zup m v0 0 (m v1 0)) v0 1 ((zup m v0 0 (m v1 0)) v1 1)) v1 2)) v0 3 ((zup (zup (zup m v0 0 (m v1 0)) v0 1 ((zup m v0 0 (m v1 0)) v1 1)) v0 2 ((zup (zup m v0 0 (m v1 0)) v0 1 ((zup m v0 0 (m v1 0)) v1 1)) v1 2)) v1 3)) v0 4) 0 25) v0 5) 0 400) (zqV kd q)
  obtain ⟨o1, o2, h⟩ := h
  refine EvX.blk (pc' := 76) [(.aload_n 1, 0, 0), (.getfield 31, 1, 6), (.iconst 0, 0, 0), (.aload_n 0, 0, 0), (.getfield 31, 1, 6), (.iconst 0, 0, 0), (.sipush 400, 0, 0)] (by decide +kernel) ⟨g_Game_31, g_Game_31, trivial⟩ ⟨o1, o2, ?_⟩
  show Ev (d + 1) M_Game_become 0 0 76 [(2, v0), (2, v1)] [(0, 400), (0, 0), (2, (zcpy (zcpy (zup (zup (zup (zup m v0 0 (m v1 0)) v0 1 ((zup m v0 0 (m v1 0)) v1 1)) v0 2 ((zup (zup m v0 0 (m v1 0)) v0 1 ((zup m v0 0 (m v1 0)) v1 1)) v1 2)) v0 3 ((zup (zup (zup m v0 0 (m v1 0)) v0 1 ((zup m v0 0 (m v1 0)) v1 1)) v0 2 ((zup (zup m v0 0 (m v1 0)) v0 1 ((zup m v0 0 (m v1 0)) v1 1)) v1 2)) v1 3)) ((zup (zup (zup (zup m v0 0 (m v1 0)) v0 1 ((zup m v0 0 (m v1 0)) v1 1)) v0 2 ((zup (zup m v0 0 (m v1 0)) v0 1 ((zup m v0 0 (m v1 0)) v1 1)) v1 2)) v0 3 ((zup (zup (zup m v0 0 (m v1 0)) v0 1 ((zup m v0 0 (m v1 0)) v1 1)) v0 2 ((zup (zup m v0 0 (m v1 0)) v0 1 ((zup m v0 0 (m v1 0)) v1 1)) v1 2)) v1 3)) v1 4) 0 ((zup (zup (zup (zup m v0 0 (m v1 0)) v0 1 ((zup m v0 0 (m v1 0)) v1 1)) v0 2 ((zup (zup m v0 0 (m v1 0)) v0 1 ((zup m v0 0 (m v1 0)) v1 1)) v1 2)) v0 3 ((zup (zup (zup m v0 0 (m v1 0)) v0 1 ((zup m v0 0 (m v1 0)) v1 1)) v0 2 ((zup (zup m v0 0 (m v1 0)) v0 1 ((zup m v0 0 (m v1 0)) v1 1)) v1 2)) v1 3)) v0 4) 0 25) ((zcpy (zup (zup (zup (zup m v0 0 (m v1 0)) v0 1 ((zup m v0 0 (m v1 0)) v1 1)) v0 2 ((zup (zup m v0 0 (m v1 0)) v0 1 ((zup m v0 0 (m v1 0)) v1 1)) v1 2)) v0 3 ((zup (zup (zup m v0 0 (m v1 0)) v0 1 ((zup m v0 0 (m v1 0)) v1 1)) v0 2 ((zup (zup m v0 0 (m v1 0)) v0 1 ((zup m v0 0 (m v1 0)) v1 1)) v1 2)) v1 3)) ((zup (zup (zup (zup m v0 0 (m v1 0)) v0 1 ((zup m v0 0 (m v1 0)) v1 1)) v0 2 ((zup (zup m v0 0 (m v1 0)) v0 1 ((zup m v0 0 (m v1 0)) v1 1)) v1 2)) v0 3 ((zup (zup (zup m v0 0 (m v1 0)) v0 1 ((zup m v0 0 (m v1 0)) v1 1)) v0 2 ((zup (zup m v0 0 (m v1 0)) v0 1 ((zup m v0 0 (m v1 0)) v1 1)) v1 2)) v1 3)) v1 4) 0 ((zup (zup (zup (zup m v0 0 (m v1 0)) v0 1 ((zup m v0 0 (m v1 0)) v1 1)) v0 2 ((zup (zup m v0 0 (m v1 0)) v0 1 ((zup m v0 0 (m v1 0)) v1 1)) v1 2)) v0 3 ((zup (zup (zup m v0 0 (m v1 0)) v0 1 ((zup m v0 0 (m v1 0)) v1 1)) v0 2 ((zup (zup m v0 0 (m v1 0)) v0 1 ((zup m v0 0 (m v1 0)) v1 1)) v1 2)) v1 3)) v0 4) 0 25) v1 5) 0 ((zcpy (zup (zup (zup (zup m v0 0 (m v1 0)) v0 1 ((zup m v0 0 (m v1 0)) v1 1)) v0 2 ((zup (zup m v0 0 (m v1 0)) v0 1 ((zup m v0 0 (m v1 0)) v1 1)) v1 2)) v0 3 ((zup (zup (zup m v0 0 (m v1 0)) v0 1 ((zup m v0 0 (m v1 0)) v1 1)) v0 2 ((zup (zup m v0 0 (m v1 0)) v0 1 ((zup m v0 0 (m v1 0)) v1 1)) v1 2)) v1 3)) ((zup (zup (zup (zup m v0 0 (m v1 0)) v0 1 ((zup m v0 0 (m v1 0)) v1 1)) v0 2 ((zup (zup m v0 0 (m v1 0)) v0 1 ((zup m v0 0 (m v1 0)) v1 1)) v1 2)) v0 3 ((zup (zup (zup m v0 0 (m v1 0)) v0 1 ((zup m v0 0 (m v1 0)) v1 1)) v0 2 ((zup (zup m v0 0 (m v1 0)) v0 1 ((zup m v0 0 (m v1 0)) v1 1)) v1 2)) v1 3)) v1 4) 0 ((zup (zup (zup (zup m v0 0 (m v1 0)) v0 1 ((zup m v0 0 (m v1 0)) v1 1)) v0 2 ((zup (zup m v0 0 (m v1 0)) v0 1 ((zup m v0 0 (m v1 0)) v1 1)) v1 2)) v0 3 ((zup (zup (zup m v0 0 (m v1 0)) v0 1 ((zup m v0 0 (m v1 0)) v1 1)) v0 2 ((zup (zup m v0 0 (m v1 0)) v0 1 ((zup m v0 0 (m v1 0)) v1 1)) v1 2)) v1 3)) v0 4) 0 25) v0 5) 0 400) v0 6), (0, 0), (2, (zcpy (zcpy (zup (zup (zup (zup m v0 0 (m v1 0)) v0 1 ((zup m v0 0 (m v1 0)) v1 1)) v0 2 ((zup (zup m v0 0 (m v1 0)) v0 1 ((zup m v0 0 (m v1 0)) v1 1)) v1 2)) v0 3 ((zup (zup (zup m v0 0 (m v1 0)) v0 1 ((zup m v0 0 (m v1 0)) v1 1)) v0 2 ((zup (zup m v0 0 (m v1 0)) v0 1 ((zup m v0 0 (m v1 0)) v1 1)) v1 2)) v1 3)) ((zup (zup (zup (zup m v0 0 (m v1 0)) v0 1 ((zup m v0 0 (m v1 0)) v1 1)) v0 2 ((zup (zup m v0 0 (m v1 0)) v0 1 ((zup m v0 0 (m v1 0)) v1 1)) v1 2)) v0 3 ((zup (zup (zup m v0 0 (m v1 0)) v0 1 ((zup m v0 0 (m v1 0)) v1 1)) v0 2 ((zup (zup m v0 0 (m v1 0)) v0 1 ((zup m v0 0 (m v1 0)) v1 1)) v1 2)) v1 3)) v1 4) 0 ((zup (zup (zup (zup m v0 0 (m v1 0)) v0 1 ((zup m v0 0 (m v1 0)) v1 1)) v0 2 ((zup (zup m v0 0 (m v1 0)) v0 1 ((zup m v0 0 (m v1 0)) v1 1)) v1 2)) v0 3 ((zup (zup (zup m v0 0 (m v1 0)) v0 1 ((zup m v0 0 (m v1 0)) v1 1)) v0 2 ((zup (zup m v0 0 (m v1 0)) v0 1 ((zup m v0 0 (m v1 0)) v1 1)) v1 2)) v1 3)) v0 4) 0 25) ((zcpy (zup (zup (zup (zup m v0 0 (m v1 0)) v0 1 ((zup m v0 0 (m v1 0)) v1 1)) v0 2 ((zup (zup m v0 0 (m v1 0)) v0 1 ((zup m v0 0 (m v1 0)) v1 1)) v1 2)) v0 3 ((zup (zup (zup m v0 0 (m v1 0)) v0 1 ((zup m v0 0 (m v1 0)) v1 1)) v0 2 ((zup (zup m v0 0 (m v1 0)) v0 1 ((zup m v0 0 (m v1 0)) v1 1)) v1 2)) v1 3)) ((zup (zup (zup (zup m v0 0 (m v1 0)) v0 1 ((zup m v0 0 (m v1 0)) v1 1)) v0 2 ((zup (zup m v0 0 (m v1 0)) v0 1 ((zup m v0 0 (m v1 0)) v1 1)) v1 2)) v0 3 ((zup (zup (zup m v0 0 (m v1 0)) v0 1 ((zup m v0 0 (m v1 0)) v1 1)) v0 2 ((zup (zup m v0 0 (m v1 0)) v0 1 ((zup m v0 0 (m v1 0)) v1 1)) v1 2)) v1 3)) v1 4) 0 ((zup (zup (zup (zup m v0 0 (m v1 0)) v0 1 ((zup m v0 0 (m v1 0)) v1 1)) v0 2 ((zup (zup m v0 0 (m v1 0)) v0 1 ((zup m v0 0 (m v1 0)) v1 1)) v1 2)) v0 3 ((zup (zup (zup m v0 0 (m v1 0)) v0 1 ((zup m v0 0 (m v1 0)) v1 1)) v0 2 ((zup (zup m v0 0 (m v1 0)) v0 1 ((zup m v0 0 (m v1 0)) v1 1)) v1 2)) v1 3)) v0 4) 0 25) v1 5) 0 ((zcpy (zup (zup (zup (zup m v0 0 (m v1 0)) v0 1 ((zup m v0 0 (m v1 0)) v1 1)) v0 2 ((zup (zup m v0 0 (m v1 0)) v0 1 ((zup m v0 0 (m v1 0)) v1 1)) v1 2)) v0 3 ((zup (zup (zup m v0 0 (m v1 0)) v0 1 ((zup m v0 0 (m v1 0)) v1 1)) v0 2 ((zup (zup m v0 0 (m v1 0)) v0 1 ((zup m v0 0 (m v1 0)) v1 1)) v1 2)) v1 3)) ((zup (zup (zup (zup m v0 0 (m v1 0)) v0 1 ((zup m v0 0 (m v1 0)) v1 1)) v0 2 ((zup (zup m v0 0 (m v1 0)) v0 1 ((zup m v0 0 (m v1 0)) v1 1)) v1 2)) v0 3 ((zup (zup (zup m v0 0 (m v1 0)) v0 1 ((zup m v0 0 (m v1 0)) v1 1)) v0 2 ((zup (zup m v0 0 (m v1 0)) v0 1 ((zup m v0 0 (m v1 0)) v1 1)) v1 2)) v1 3)) v1 4) 0 ((zup (zup (zup (zup m v0 0 (m v1 0)) v0 1 ((zup m v0 0 (m v1 0)) v1 1)) v0 2 ((zup (zup m v0 0 (m v1 0)) v0 1 ((zup m v0 0 (m v1 0)) v1 1)) v1 2)) v0 3 ((zup (zup (zup m v0 0 (m v1 0)) v0 1 ((zup m v0 0 (m v1 0)) v1 1)) v0 2 ((zup (zup m v0 0 (m v1 0)) v0 1 ((zup m v0 0 (m v1 0)) v1 1)) v1 2)) v1 3)) v0 4) 0 25) v0 5) 0 400) v1 6)] kd (zcpy (zcpy (zup (zup (zup (zup m v0 0 (m v1 0)) v0 1 ((zup m v0 0 (m v1 0)) v1 1)) v0 2 ((zup (zup m v0 0 (m v1 0)) v0 1 ((zup m v0 0 (m v1 0)) v1 1)) v1 2)) v0 3 ((zup (zup (zup m v0 0 (m v1 0)) v0 1 ((zup m v0 0 (m v1 0)) v1 1)) v0 2 ((zup (zup m v0 0 (m v1 0)) v0 1 ((zup m v0 0 (m v1 0)) v1 1)) v1 2)) v1 3)) ((zup (zup (zup (zup m v0 0 (m v1 0)) v0 1 ((zup m v0 0 (m v1 0)) v1 1)) v0 2 ((zup (zup m v0 0 (m v1 0)) v0 1 ((zup m v0 0 (m v1 0)) v1 1)) v1 2)) v0 3 ((zup (zup (zup m v0 0 (m v1 0)) v0 1 ((zup m v0 0 (m v1 0)) v1 1)) v0 2 ((zup (zup m v0 0 (m v1 0)) v0 1 ((zup m v0 0 (m v1 0)) v1 1)) v1 2)) v1 3)) v1 4) 0 ((zup (zup (zup (zup m v0 0 (m v1 0)) v0 1 ((zup m v0 0 (m v1 0)) v1 1)) v0 2 ((zup (zup m v0 0 (m v1 0)) v0 1 ((zup m v0 0 (m v1 0)) v1 1)) v1 2)) v0 3 ((zup (zup (zup m v0 0 (m v1 0)) v0 1 ((zup m v0 0 (m v1 0)) v1 1)) v0 2 ((zup (zup m v0 0 (m v1 0)) v0 1 ((zup m v0 0 (m v1 0)) v1 1)) v1 2)) v1 3)) v0 4) 0 25) ((zcpy (zup (zup (zup (zup m v0 0 (m v1 0)) v0 1 ((zup m v0 0 (m v1 0)) v1 1)) v0 2 ((zup (zup m v0 0 (m v1 0)) v0 1 ((zup m v0 0 (m v1 0)) v1 1)) v1 2)) v0 3 ((zup (zup (zup m v0 0 (m v1 0)) v0 1 ((zup m v0 0 (m v1 0)) v1 1)) v0 2 ((zup (zup m v0 0 (m v1 0)) v0 1 ((zup m v0 0 (m v1 0)) v1 1)) v1 2)) v1 3)) ((zup (zup (zup (zup m v0 0 (m v1 0)) v0 1 ((zup m v0 0 (m v1 0)) v1 1)) v0 2 ((zup (zup m v0 0 (m v1 0)) v0 1 ((zup m v0 0 (m v1 0)) v1 1)) v1 2)) v0 3 ((zup (zup (zup m v0 0 (m v1 0)) v0 1 ((zup m v0 0 (m v1 0)) v1 1)) v0 2 ((zup (zup m v0 0 (m v1 0)) v0 1 ((zup m v0 0 (m v1 0)) v1 1)) v1 2)) v1 3)) v1 4) 0 ((zup (zup (zup (zup m v0 0 (m v1 0)) v0 1 ((zup m v0 0 (m v1 0)) v1 1)) v0 2 ((zup (zup m v0 0 (m v1 0)) v0 1 ((zup m v0 0 (m v1 0)) v1 1)) v1 2)) v0 3 ((zup (zup (zup m v0 0 (m v1 0)) v0 1 ((zup m v0 0 (m v1 0)) v1 1)) v0 2 ((zup (zup m v0 0 (m v1 0)) v0 1 ((zup m v0 0 (m v1 0)) v1 1)) v1 2)) v1 3)) v0 4) 0 25) v1 5) 0 ((zcpy (zup (zup (zup (zup m v0 0 (m v1 0)) v0 1 ((zup m v0 0 (m v1 0)) v1 1)) v0 2 ((zup (zup m v0 0 (m v1 0)) v0 1 ((zup m v0 0 (m v1 0)) v1 1)) v1 2)) v0 3 ((zup (zup (zup m v0 0 (m v1 0)) v0 1 ((zup m v0 0 (m v1 0)) v1 1)) v0 2 ((zup (zup m v0 0 (m v1 0)) v0 1 ((zup m v0 0 (m v1 0)) v1 1)) v1 2)) v1 3)) ((zup (zup (zup (zup m v0 0 (m v1 0)) v0 1 ((zup m v0 0 (m v1 0)) v1 1)) v0 2 ((zup (zup m v0 0 (m v1 0)) v0 1 ((zup m v0 0 (m v1 0)) v1 1)) v1 2)) v0 3 ((zup (zup (zup m v0 0 (m v1 0)) v0 1 ((zup m v0 0 (m v1 0)) v1 1)) v0 2 ((zup (zup m v0 0 (m v1 0)) v0 1 ((zup m v0 0 (m v1 0)) v1 1)) v1 2)) v1 3)) v1 4) 0 ((zup (zup (zup (zup m v0 0 (m v1 0)) v0 1 ((zup m v0 0 (m v1 0)) v1 1)) v0 2 ((zup (zup m v0 0 (m v1 0)) v0 1 ((zup m v0 0 (m v1 0)) v1 1)) v1 2)) v0 3 ((zup (zup (zup m v0 0 (m v1 0)) v0 1 ((zup m v0 0 (m v1 0)) v1 1)) v0 2 ((zup (zup m v0 0 (m v1 0)) v0 1 ((zup m v0 0 (m v1 0)) v1 1)) v1 2)) v1 3)) v0 4) 0 25) v0 5) 0 400) (zqV kd q)
  obtain ⟨nb, na, ob, oa, o1, o2, o3, o4, o5, h⟩ := h
  refine EvX.acopy' (by decide +kernel) y_Game_34 ob oa o1 o2 o3 o4 o5 (Nat.le_of_ble_eq_true rfl) ?_
  show Ev (d + 1) M_Game_become 0 0 79 [(2, v0), (2, v1)] [] kd (zcpy (zcpy (zcpy (zup (zup (zup (zup m v0 0 (m v1 0)) v0 1 ((zup m v0 0 (m v1 0)) v1 1)) v0 2 ((zup (zup m v0 0 (m v1 0)) v0 1 ((zup m v0 0 (m v1 0)) v1 1)) v1 2)) v0 3 ((zup (zup (zup m v0 0 (m v1 0)) v0 1 ((zup m v0 0 (m v1 0)) v1 1)) v0 2 ((zup (zup m v0 0 (m v1 0)) v0 1 ((zup m v0 0 (m v1 0)) v1 1)) v1 2)) v1 3)) ((zup (zup (zup (zup m v0 0 (m v1 0)) v0 1 ((zup m v0 0 (m v1 0)) v1 1)) v0 2 ((zup (zup m v0 0 (m v1 0)) v0 1 ((zup m v0 0 (m v1 0)) v1 1)) v1 2)) v0 3 ((zup (zup (zup m v0 0 (m v1 0)) v0 1 ((zup m v0 0 (m v1 0)) v1 1)) v0 2 ((zup (zup m v0 0 (m v1 0)) v0 1 ((zup m v0 0 (m v1 0)) v1 1)) v1 2)) v1 3)) v1 4) 0 ((zup (zup (zup (zup m v0 0 (m v1 0)) v0 1 ((zup m v0 0 (m v1 0)) v1 1)) v0 2 ((zup (zup m v0 0 (m v1 0)) v0 1 ((zup m v0 0 (m v1 0)) v1 1)) v1 2)) v0 3 ((zup (zup (zup m v0 0 (m v1 0)) v0 1 ((zup m v0 0 (m v1 0)) v1 1)) v0 2 ((zup (zup m v0 0 (m v1 0)) v0 1 ((zup m v0 0 (m v1 0)) v1 1)) v1 2)) v1 3)) v0 4) 0 25) ((zcpy (zup (zup (zup (zup m v0 0 (m v1 0)) v0 1 ((zup m v0 0 (m v1 0)) v1 1)) v0 2 ((zup (zup m v0 0 (m v1 0)) v0 1 ((zup m v0 0 (m v1 0)) v1 1)) v1 2)) v0 3 ((zup (zup (zup m v0 0 (m v1 0)) v0 1 ((zup m v0 0 (m v1 0)) v1 1)) v0 2 ((zup (zup m v0 0 (m v1 0)) v0 1 ((zup m v0 0 (m v1 0)) v1 1)) v1 2)) v1 3)) ((zup (zup (zup (zup m v0 0 (m v1 0)) v0 1 ((zup m v0 0 (m v1 0)) v1 1)) v0 2 ((zup (zup m v0 0 (m v1 0)) v0 1 ((zup m v0 0 (m v1 0)) v1 1)) v1 2)) v0 3 ((zup (zup (zup m v0 0 (m v1 0)) v0 1 ((zup m v0 0 (m v1 0)) v1 1)) v0 2 ((zup (zup m v0 0 (m v1 0)) v0 1 ((zup m v0 0 (m v1 0)) v1 1)) v1 2)) v1 3)) v1 4) 0 ((zup (zup (zup (zup m v0 0 (m v1 0)) v0 1 ((zup m v0 0 (m v1 0)) v1 1)) v0 2 ((zup (zup m v0 0 (m v1 0)) v0 1 ((zup m v0 0 (m v1 0)) v1 1)) v1 2)) v0 3 ((zup (zup (zup m v0 0 (m v1 0)) v0 1 ((zup m v0 0 (m v1 0)) v1 1)) v0 2 ((zup (zup m v0 0 (m v1 0)) v0 1 ((zup m v0 0 (m v1 0)) v1 1)) v1 2)) v1 3)) v0 4) 0 25) v1 5) 0 ((zcpy (zup (zup (zup (zup m v0 0 (m v1 0)) v0 1 ((zup m v0 0 (m v1 0)) v1 1)) v0 2 ((zup (zup m v0 0 (m v1 0)) v0 1 ((zup m v0 0 (m v1 0)) v1 1)) v1 2)) v0 3 ((zup (zup (zup m v0 0 (m v1 0)) v0 1 ((zup m v0 0 (m v1 0)) v1 1)) v0 2 ((zup (zup m v0 0 (m v1 0)) v0 1 ((zup m v0 0 (m v1 0)) v1 1)) v1 2)) v1 3)) ((zup (zup (zup (zup m v0 0 (m v1 0)) v0 1 ((zup m v0 0 (m v1 0)) v1 1)) v0 2 ((zup (zup m v0 0 (m v1 0)) v0 1 ((zup m v0 0 (m v1 0)) v1 1)) v1 2)) v0 3 ((zup (zup (zup m v0 0 (m v1 0)) v0 1 ((zup m v0 0 (m v1 0)) v1 1)) v0 2 ((zup (zup m v0 0 (m v1 0)) v0 1 ((zup m v0 0 (m v1 0)) v1 1)) v1 2)) v1 3)) v1 4) 0 ((zup (zup (zup (zup m v0 0 (m v1 0)) v0 1 ((zup m v0 0 (m v1 0)) v1 1)) v0 2 ((zup (zup m v0 0 (m v1 0)) v0 1 ((zup m v0 0 (m v1 0)) v1 1)) v1 2)) v0 3 ((zup (zup (zup m v0 0 (m v1 0)) v0 1 ((zup m v0 0 (m v1 0)) v1 1)) v0 2 ((zup (zup m v0 0 (m v1 0)) v0 1 ((zup m v0 0 (m v1 0)) v1 1)) v1 2)) v1 3)) v0 4) 0 25) v0 5) 0 400) ((zcpy (zcpy (zup (zup (zup (zup m v0 0 (m v1 0)) v0 1 ((zup m v0 0 (m v1 0)) v1 1)) v0 2 ((zup (zup m v0 0 (m v1 0)) v0 1 ((zup m v0 0 (m v1 0)) v1 1)) v1 2)) v0 3 ((zup (zup (zup m v0 0 (m v1 0)) v0 1 ((zup m v0 0 (m v1 0)) v1 1)) v0 2 ((zup (zup m v0 0 (m v1 0)) v0 1 ((zup m v0 0 (m v1 0)) v1 1)) v1 2)) v1 3)) ((zup (zup (zup (zup m v0 0 (m v1 0)) v0 1 ((zup m v0 0 (m v1 0)) v1 1)) v0 2 ((zup (zup m v0 0 (m v1 0)) v0 1 ((zup m v0 0 (m v1 0)) v1 1)) v1 2)) v0 3 ((zup (zup (zup m v0 0 (m v1 0)) v0 1 ((zup m v0 0 (m v1 0)) v1 1)) v0 2 ((zup (zup m v0 0 (m v1 0)) v0 1 ((zup m v0 0 (m v1 0)) v1 1)) v1 2)) v1 3)) v1 4) 0 ((zup (zup (zup (zup m v0 0 (m v1 0)) v0 1 ((zup m v0 0 (m v1 0)) v1 1)) v0 2 ((zup (zup m v0 0 (m v1 0)) v0 1 ((zup m v0 0 (m v1 0)) v1 1)) v1 2)) v0 3 ((zup (zup (zup m v0 0 (m v1 0)) v0 1 ((zup m v0 0 (m v1 0)) v1 1)) v0 2 ((zup (zup m v0 0 (m v1 0)) v0 1 ((zup m v0 0 (m v1 0)) v1 1)) v1 2)) v1 3)) v0 4) 0 25) ((zcpy (zup (zup (zup (zup m v0 0 (m v1 0)) v0 1 ((zup m v0 0 (m v1 0)) v1 1)) v0 2 ((zup (zup m v0 0 (m v1 0)) v0 1 ((zup m v0 0 (m v1 0)) v1 1)) v1 2)) v0 3 ((zup (zup (zup m v0 0 (m v1 0)) v0 1 ((zup m v0 0 (m v1 0)) v1 1)) v0 2 ((zup (zup m v0 0 (m v1 0)) v0 1 ((zup m v0 0 (m v1 0)) v1 1)) v1 2)) v1 3)) ((zup (zup (zup (zup m v0 0 (m v1 0)) v0 1 ((zup m v0 0 (m v1 0)) v1 1)) v0 2 ((zup (zup m v0 0 (m v1 0)) v0 1 ((zup m v0 0 (m v1 0)) v1 1)) v1 2)) v0 3 ((zup (zup (zup m v0 0 (m v1 0)) v0 1 ((zup m v0 0 (m v1 0)) v1 1)) v0 2 ((zup (zup m v0 0 (m v1 0)) v0 1 ((zup m v0 0 (m v1 0)) v1 1)) v1 2)) v1 3)) v1 4) 0 ((zup (zup (zup (zup m v0 0 (m v1 0)) v0 1 ((zup m v0 0 (m v1 0)) v1 1)) v0 2 ((zup (zup m v0 0 (m v1 0)) v0 1 ((zup m v0 0 (m v1 0)) v1 1)) v1 2)) v0 3 ((zup (zup (zup m v0 0 (m v1 0)) v0 1 ((zup m v0 0 (m v1 0)) v1 1)) v0 2 ((zup (zup m v0 0 (m v1 0)) v0 1 ((zup m v0 0 (m v1 0)) v1 1)) v1 2)) v1 3)) v0 4) 0 25) v1 5) 0 ((zcpy (zup (zup (zup (zup m v0 0 (m v1 0)) v0 1 ((zup m v0 0 (m v1 0)) v1 1)) v0 2 ((zup (zup m v0 0 (m v1 0)) v0 1 ((zup m v0 0 (m v1 0)) v1 1)) v1 2)) v0 3 ((zup (zup (zup m v0 0 (m v1 0)) v0 1 ((zup m v0 0 (m v1 0)) v1 1)) v0 2 ((zup (zup m v0 0 (m v1 0)) v0 1 ((zup m v0 0 (m v1 0)) v1 1)) v1 2)) v1 3)) ((zup (zup (zup (zup m v0 0 (m v1 0)) v0 1 ((zup m v0 0 (m v1 0)) v1 1)) v0 2 ((zup (zup m v0 0 (m v1 0)) v0 1 ((zup m v0 0 (m v1 0)) v1 1)) v1 2)) v0 3 ((zup (zup (zup m v0 0 (m v1 0)) v0 1 ((zup m v0 0 (m v1 0)) v1 1)) v0 2 ((zup (zup m v0 0 (m v1 0)) v0 1 ((zup m v0 0 (m v1 0)) v1 1)) v1 2)) v1 3)) v1 4) 0 ((zup (zup (zup (zup m v0 0 (m v1 0)) v0 1 ((zup m v0 0 (m v1 0)) v1 1)) v0 2 ((zup (zup m v0 0 (m v1 0)) v0 1 ((zup m v0 0 (m v1 0)) v1 1)) v1 2)) v0 3 ((zup (zup (zup m v0 0 (m v1 0)) v0 1 ((zup m v0 0 (m v1 0)) v1 1)) v0 2 ((zup (zup m v0 0 (m v1 0)) v0 1 ((zup m v0 0 (m v1 0)) v1 1)) v1 2)) v1 3)) v0 4) 0 25) v0 5) 0 400) v1 6) 0 ((zcpy (zcpy (zup (zup (zup (zup m v0 0 (m v1 0)) v0 1 ((zup m v0 0 (m v1 0)) v1 1)) v0 2 ((zup (zup m v0 0 (m v1 0)) v0 1 ((zup m v0 0 (m v1 0)) v1 1)) v1 2)) v0 3 ((zup (zup (zup m v0 0 (m v1 0)) v0 1 ((zup m v0 0 (m v1 0)) v1 1)) v0 2 ((zup (zup m v0 0 (m v1 0)) v0 1 ((zup m v0 0 (m v1 0)) v1 1)) v1 2)) v1 3)) ((zup (zup (zup (zup m v0 0 (m v1 0)) v0 1 ((zup m v0 0 (m v1 0)) v1 1)) v0 2 ((zup (zup m v0 0 (m v1 0)) v0 1 ((zup m v0 0 (m v1 0)) v1 1)) v1 2)) v0 3 ((zup (zup (zup m v0 0 (m v1 0)) v0 1 ((zup m v0 0 (m v1 0)) v1 1)) v0 2 ((zup (zup m v0 0 (m v1 0)) v0 1 ((zup m v0 0 (m v1 0)) v1 1)) v1 2)) v1 3)) v1 4) 0 ((zup (zup (zup (zup m v0 0 (m v1 0)) v0 1 ((zup m v0 0 (m v1 0)) v1 1)) v0 2 ((zup (zup m v0 0 (m v1 0)) v0 1 ((zup m v0 0 (m v1 0)) v1 1)) v1 2)) v0 3 ((zup (zup (zup m v0 0 (m v1 0)) v0 1 ((zup m v0 0 (m v1 0)) v1 1)) v0 2 ((zup (zup m v0 0 (m v1 0)) v0 1 ((zup m v0 0 (m v1 0)) v1 1)) v1 2)) v1 3)) v0 4) 0 25) ((zcpy (zup (zup (zup (zup m v0 0 (m v1 0)) v0 1 ((zup m v0 0 (m v1 0)) v1 1)) v0 2 ((zup (zup m v0 0 (m v1 0)) v0 1 ((zup m v0 0 (m v1 0)) v1 1)) v1 2)) v0 3 ((zup (zup (zup m v0 0 (m v1 0)) v0 1 ((zup m v0 0 (m v1 0)) v1 1)) v0 2 ((zup (zup m v0 0 (m v1 0)) v0 1 ((zup m v0 0 (m v1 0)) v1 1)) v1 2)) v1 3)) ((zup (zup (zup (zup m v0 0 (m v1 0)) v0 1 ((zup m v0 0 (m v1 0)) v1 1)) v0 2 ((zup (zup m v0 0 (m v1 0)) v0 1 ((zup m v0 0 (m v1 0)) v1 1)) v1 2)) v0 3 ((zup (zup (zup m v0 0 (m v1 0)) v0 1 ((zup m v0 0 (m v1 0)) v1 1)) v0 2 ((zup (zup m v0 0 (m v1 0)) v0 1 ((zup m v0 0 (m v1 0)) v1 1)) v1 2)) v1 3)) v1 4) 0 ((zup (zup (zup (zup m v0 0 (m v1 0)) v0 1 ((zup m v0 0 (m v1 0)) v1 1)) v0 2 ((zup (zup m v0 0 (m v1 0)) v0 1 ((zup m v0 0 (m v1 0)) v1 1)) v1 2)) v0 3 ((zup (zup (zup m v0 0 (m v1 0)) v0 1 ((zup m v0 0 (m v1 0)) v1 1)) v0 2 ((zup (zup m v0 0 (m v1 0)) v0 1 ((zup m v0 0 (m v1 0)) v1 1)) v1 2)) v1 3)) v0 4) 0 25) v1 5) 0 ((zcpy (zup (zup (zup (zup m v0 0 (m v1 0)) v0 1 ((zup m v0 0 (m v1 0)) v1 1)) v0 2 ((zup (zup m v0 0 (m v1 0)) v0 1 ((zup m v0 0 (m v1 0)) v1 1)) v1 2)) v0 3 ((zup (zup (zup m v0 0 (m v1 0)) v0 1 ((zup m v0 0 (m v1 0)) v1 1)) v0 2 ((zup (zup m v0 0 (m v1 0)) v0 1 ((zup m v0 0 (m v1 0)) v1 1)) v1 2)) v1 3)) ((zup (zup (zup (zup m v0 0 (m v1 0)) v0 1 ((zup m v0 0 (m v1 0)) v1 1)) v0 2 ((zup (zup m v0 0 (m v1 0)) v0 1 ((zup m v0 0 (m v1 0)) v1 1)) v1 2)) v0 3 ((zup (zup (zup m v0 0 (m v1 0)) v0 1 ((zup m v0 0 (m v1 0)) v1 1)) v0 2 ((zup (zup m v0 0 (m v1 0)) v0 1 ((zup m v0 0 (m v1 0)) v1 1)) v1 2)) v1 3)) v1 4) 0 ((zup (zup (zup (zup m v0 0 (m v1 0)) v0 1 ((zup m v0 0 (m v1 0)) v1 1)) v0 2 ((zup (zup m v0 0 (m v1 0)) v0 1 ((zup m v0 0 (m v1 0)) v1 1)) v1 2)) v0 3 ((zup (zup (zup m v0 0 (m v1 0)) v0 1 ((zup m v0 0 (m v1 0)) v1 1)) v0 2 ((zup (zup m v0 0 (m v1 0)) v0 1 ((zup m v0 0 (m v1 0)) v1 1)) v1 2)) v1 3)) v0 4) 0 25) v0 5) 0 400) v0 6) 0 400) (zqV kd q)
  exact EvX.ret (r := zJ) (by decide +kernel) rfl ⟨rfl, rfl, h⟩
theorem S_Game_become {d : Nat} {kd : ZK} {m : ZM} {q : ZM → Prop} {v0 v1 : Int} (h : (zobj kd v1 1 ∧ zobj kd v0 1 ∧ zobj kd v1 1 ∧ zobj kd v0 1 ∧ zobj kd v1 1 ∧ zobj kd v0 1 ∧ zobj kd v1 1 ∧ zobj kd v0 1 ∧ zobj kd v1 1 ∧ zobj kd v0 1 ∧ (∃ nb na : Nat, zarr kd ((zup (zup (zup (zup m v0 0 (m v1 0)) v0 1 ((zup m v0 0 (m v1 0)) v1 1)) v0 2 ((zup (zup m v0 0 (m v1 0)) v0 1 ((zup m v0 0 (m v1 0)) v1 1)) v1 2)) v0 3 ((zup (zup (zup m v0 0 (m v1 0)) v0 1 ((zup m v0 0 (m v1 0)) v1 1)) v0 2 ((zup (zup m v0 0 (m v1 0)) v0 1 ((zup m v0 0 (m v1 0)) v1 1)) v1 2)) v1 3)) v1 4) 0 nb ∧ zarr kd ((zup (zup (zup (zup m v0 0 (m v1 0)) v0 1 ((zup m v0 0 (m v1 0)) v1 1)) v0 2 ((zup (zup m v0 0 (m v1 0)) v0 1 ((zup m v0 0 (m v1 0)) v1 1)) v1 2)) v0 3 ((zup (zup (zup m v0 0 (m v1 0)) v0 1 ((zup m v0 0 (m v1 0)) v1 1)) v0 2 ((zup (zup m v0 0 (m v1 0)) v0 1 ((zup m v0 0 (m v1 0)) v1 1)) v1 2)) v1 3)) v0 4) 0 na ∧ (0 : Int) ≤ 0 ∧ (0 : Int) ≤ 0 ∧ (0 : Int) ≤ 25 ∧ (0 : Int) + 25 ≤ (nb : Int) ∧ (0 : Int) + 25 ≤ (na : Int) ∧ (zobj kd v1 1 ∧ zobj kd v0 1 ∧ (∃ nb na : Nat, zarr kd ((zcpy (zup (zup (zup (zup m v0 0 (m v1 0)) v0 1 ((zup m v0 0 (m v1 0)) v1 1)) v0 2 ((zup (zup m v0 0 (m v1 0)) v0 1 ((zup m v0 0 (m v1 0)) v1 1)) v1 2)) v0 3 ((zup (zup (zup m v0 0 (m v1 0)) v0 1 ((zup m v0 0 (m v1 0)) v1 1)) v0 2 ((zup (zup m v0 0 (m v1 0)) v0 1 ((zup m v0 0 (m v1 0)) v1 1)) v1 2)) v1 3)) ((zup (zup (zup (zup m v0 0 (m v1 0)) v0 1 ((zup m v0 0 (m v1 0)) v1 1)) v0 2 ((zup (zup m v0 0 (m v1 0)) v0 1 ((zup m v0 0 (m v1 0)) v1 1)) v1 2)) v0 3 ((zup (zup (zup m v0 0 (m v1 0)) v0 1 ((zup m v0 0 (m v1 0)) v1 1)) v0 2 ((zup (zup m v0 0 (m v1 0)) v0 1 ((zup m v0 0 (m v1 0)) v1 1)) v1 2)) v1 3)) v1 4) 0 ((zup (zup (zup (zup m v0 0 (m v1 0)) v0 1 ((zup m v0 0 (m v1 0)) v1 1)) v0 2 ((zup (zup m v0 0 (m v1 0)) v0 1 ((zup m v0 0 (m v1 0)) v1 1)) v1 2)) v0 3 ((zup (zup (zup m v0 0 (m v1 0)) v0 1 ((zup m v0 0 (m v1 0)) v1 1)) v0 2 ((zup (zup m v0 0 (m v1 0)) v0 1 ((zup m v0 0 (m v1 0)) v1 1)) v1 2)) v1 3)) v0 4) 0 25) v1 5) 0 nb ∧ zarr kd ((zcpy (zup (zup (zup (zup m v0 0 (m v1 0)) v0 1 ((zup m v0 0 (m v1 0)) v1 1)) v0 2 ((zup (zup m v0 0 (m v1 0)) v0 1 ((zup m v0 0 (m v1 0)) v1 1)) v1 2)) v0 3 ((zup (zup (zup m v0 0 (m v1 0)) v0 1 ((zup m v0 0 (m v1 0)) v1 1)) v0 2 ((zup (zup m v0 0 (m v1 0)) v0 1 ((zup m v0 0 (m v1 0)) v1 1)) v1 2)) v1 3)) ((zup (zup (zup (zup m v0 0 (m v1 0)) v0 1 ((zup m v0 0 (m v1 0)) v1 1)) v0 2 ((zup (zup m v0 0 (m v1 0)) v0 1 ((zup m v0 0 (m v1 0)) v1 1)) v1 2)) v0 3 ((zup (zup (zup m v0 0 (m v1 0)) v0 1 ((zup m v0 0 (m v1 0)) v1 1)) v0 2 ((zup (zup m v0 0 (m v1 0)) v0 1 ((zup m v0 0 (m v1 0)) v1 1)) v1 2)) v1 3)) v1 4) 0 ((zup (zup (zup (zup m v0 0 (m v1 0)) v0 1 ((zup m v0 0 (m v1 0)) v1 1)) v0 2 ((zup (zup m v0 0 (m v1 0)) v0 1 ((zup m v0 0 (m v1 0)) v1 1)) v1 2)) v0 3 ((zup (zup (zup m v0 0 (m v1 0)) v0 1 ((zup m v0 0 (m v1 0)) v1 1)) v0 2 ((zup (zup m v0 0 (m v1 0)) v0 1 ((zup m v0 0 (m v1 0)) v1 1)) v1 2)) v1 3)) v0 4) 0 25) v0 5) 0 na ∧ (0 : Int) ≤ 0 ∧ (0 : Int) ≤ 0 ∧ (0 : Int) ≤ 400 ∧ (0 : Int) + 400 ≤ (nb : Int) ∧ (0 : Int) + 400 ≤ (na : Int) ∧ (zobj kd v1 1 ∧ zobj kd v0 1 ∧ (∃ nb na : Nat, zarr kd ((zcpy (zcpy (zup (zup (zup (zup m v0 0 (m v1 0)) v0 1 ((zup m v0 0 (m v1 0)) v1 1)) v0 2 ((zup (zup m v0 0 (m v1 0)) v0 1 ((zup m v0 0 (m v1 0)) v1 1)) v1 2)) v0 3 ((zup (zup (zup m v0 0 (m v1 0)) v0 1 ((zup m v0 0 (m v1 0)) v1 1)) v0 2 ((zup (zup m v0 0 (m v1 0)) v0 1 ((zup m v0 0 (m v1 0)) v1 1)) v1 2)) v1 3)) ((zup (zup (zup (zup m v0 0 (m v1 0)) v0 1 ((zup m v0 0 (m v1 0)) v1 1)) v0 2 ((zup (zup m v0 0 (m v1 0)) v0 1 ((zup m v0 0 (m v1 0)) v1 1)) v1 2)) v0 3 ((zup (zup (zup m v0 0 (m v1 0)) v0 1 ((zup m v0 0 (m v1 0)) v1 1)) v0 2 ((zup (zup m v0 0 (m v1 0)) v0 1 ((zup m v0 0 (m v1 0)) v1 1)) v1 2)) v1 3)) v1 4) 0 ((zup (zup (zup (zup m v0 0 (m v1 0)) v0 1 ((zup m v0 0 (m v1 0)) v1 1)) v0 2 ((zup (zup m v0 0 (m v1 0)) v0 1 ((zup m v0 0 (m v1 0)) v1 1)) v1 2)) v0 3 ((zup (zup (zup m v0 0 (m v1 0)) v0 1 ((zup m v0 0 (m v1 0)) v1 1)) v0 2 ((zup (zup m v0 0 (m v1 0)) v0 1 ((zup m v0 0 (m v1 0)) v1 1)) v1 2)) v1 3)) v0 4) 0 25) ((zcpy (zup (zup (zup (zup m v0 0 (m v1 0)) v0 1 ((zup m v0 0 (m v1 0)) v1 1)) v0 2 ((zup (zup m v0 0 (m v1 0)) v0 1 ((zup m v0 0 (m v1 0)) v1 1)) v1 2)) v0 3 ((zup (zup (zup m v0 0 (m v1 0)) v0 1 ((zup m v0 0 (m v1 0)) v1 1)) v0 2 ((zup (zup m v0 0 (m v1 0)) v0 1 ((zup m v0 0 (m v1 0)) v1 1)) v1 2)) v1 3)) ((zup (zup (zup (zup m v0 0 (m v1 0)) v0 1 ((zup m v0 0 (m v1 0)) v1 1)) v0 2 ((zup (zup m v0 0 (m v1 0)) v0 1 ((zup m v0 0 (m v1 0)) v1 1)) v1 2)) v0 3 ((zup (zup (zup m v0 0 (m v1 0)) v0 1 ((zup m v0 0 (m v1 0)) v1 1)) v0 2 ((zup (zup m v0 0 (m v1 0)) v0 1 ((zup m v0 0 (m v1 0)) v1 1)) v1 2)) v1 3)) v1 4) 0 ((zup (zup (zup (zup m v0 0 (m v1 0)) v0 1 ((zup m v0 0 (m v1 0)) v1 1)) v0 2 ((zup (zup m v0 0 (m v1 0)) v0 1 ((zup m v0 0 (m v1 0)) v1 1)) v1 2)) v0 3 ((zup (zup (zup m v0 0 (m v1 0)) v0 1 ((zup m v0 0 (m v1 0)) v1 1)) v0 2 ((zup (zup m v0 0 (m v1 0)) v0 1 ((zup m v0 0 (m v1 0)) v1 1)) v1 2)) v1 3)) v0 4) 0 25) v1 5) 0 ((zcpy (zup (zup (zup (zup m v0 0 (m v1 0)) v0 1 ((zup m v0 0 (m v1 0)) v1 1)) v0 2 ((zup (zup m v0 0 (m v1 0)) v0 1 ((zup m v0 0 (m v1 0)) v1 1)) v1 2)) v0 3 ((zup (zup (zup m v0 0 (m v1 0)) v0 1 ((zup m v0 0 (m v1 0)) v1 1)) v0 2 ((zup (zup m v0 0 (m v1 0)) v0 1 ((zup m v0 0 (m v1 0)) v1 1)) v1 2)) v1 3)) ((zup (zup (zup (zup m v0 0 (m v1 0)) v0 1 ((zup m v0 0 (m v1 0)) v1 1)) v0 2 ((zup (zup m v0 0 (m v1 0)) v0 1 ((zup m v0 0 (m v1 0)) v1 1)) v1 2)) v0 3 ((zup (zup (zup m v0 0 (m v1 0)) v0 1 ((zup m v0 0 (m v1 0)) v1 1)) v0 2 ((zup (zup m v0 0 (m v1 0)) v0 1 ((zup m v0 0 (m v1 0)) v1 1)) v1 2)) v1 3)) v1 4) 0 ((zup (zup (zup (zup m v0 0 (m v1 0)) v0 1 ((zup m v0 0 (m v1 0)) v1 1)) v0 2 ((zup (zup m v0 0 (m v1 0)) v0 1 ((zup m v0 0 (m v1 0)) v1 1)) v1 2)) v0 3 ((zup (zup (zup m v0 0 (m v1 0)) v0 1 ((zup m v0 0 (m v1 0)) v1 1)) v0 2 ((zup (zup m v0 0 (m v1 0)) v0 1 ((zup m v0 0 (m v1 0)) v1 1)) v1 2)) v1 3)) v0 4) 0 25) v0 5) 0 400) v1 6) 0 nb ∧ zarr kd ((zcpy (zcpy (zup (zup (zup (zup m v0 0 (m v1 0)) v0 1 ((zup m v0 0 (m v1 0)) v1 1)) v0 2 ((zup (zup m v0 0 (m v1 0)) v0 1 ((zup m v0 0 (m v1 0)) v1 1)) v1 2)) v0 3 ((zup (zup (zup m v0 0 (m v1 0)) v0 1 ((zup m v0 0 (m v1 0)) v1 1)) v0 2 ((zup (zup m v0 0 (m v1 0)) v0 1 ((zup m v0 0 (m v1 0)) v1 1)) v1 2)) v1 3)) ((zup (zup (zup (zup m v0 0 (m v1 0)) v0 1 ((zup m v0 0 (m v1 0)) v1 1)) v0 2 ((zup (zup m v0 0 (m v1 0)) v0 1 ((zup m v0 0 (m v1 0)) v1 1)) v1 2)) v0 3 ((zup (zup (zup m v0 0 (m v1 0)) v0 1 ((zup m v0 0 (m v1 0)) v1 1)) v0 2 ((zup (zup m v0 0 (m v1 0)) v0 1 ((zup m v0 0 (m v1 0)) v1 1)) v1 2)) v1 3)) v1 4) 0 ((zup (zup (zup (zup m v0 0 (m v1 0)) v0 1 ((zup m v0 0 (m v1 0)) v1 1)) v0 2 ((zup (zup m v0 0 (m v1 0)) v0 1 ((zup m v0 0 (m v1 0)) v1 1)) v1 2)) v0 3 ((zup (zup (zup m v0 0 (m v1 0)) v0 1 ((zup m v0 0 (m v1 0)) v1 1)) v0 2 ((zup (zup m v0 0 (m v1 0)) v0 1 ((zup m v0 0 (m v1 0)) v1 1)) v1 2)) v1 3)) v0 4) 0 25) ((zcpy (zup (zup (zup (zup m v0 0 (m v1 0)) v0 1 ((zup m v0 0 (m v1 0)) v1 1)) v0 2 ((zup (zup m v0 0 (m v1 0)) v0 1 ((zup m v0 0 (m v1 0)) v1 1)) v1 2)) v0 3 ((zup (zup (zup m v0 0 (m v1 0)) v0 1 ((zup m v0 0 (m v1 0)) v1 1)) v0 2 ((zup (zup m v0 0 (m v1 0)) v0 1 ((zup m v0 0 (m v1 0)) v1 1)) v1 2)) v1 3)) ((zup (zup (zup (zup m v0 0 (m v1 0)) v0 1 ((zup m v0 0 (m v1 0)) v1 1)) v0 2 ((zup (zup m v0 0 (m v1 0)) v0 1 ((zup m v0 0 (m v1 0)) v1 1)) v1 2)) v0 3 ((zup (zup (zup m v0 0 (m v1 0)) v0 1 ((zup m v0 0 (m v1 0)) v1 1)) v0 2 ((zup (zup m v0 0 (m v1 0)) v0 1 ((zup m v0 0 (m v1 0)) v1 1)) v1 2)) v1 3)) v1 4) 0 ((zup (zup (zup (zup m v0 0 (m v1 0)) v0 1 ((zup m v0 0 (m v1 0)) v1 1)) v0 2 ((zup (zup m v0 0 (m v1 0)) v0 1 ((zup m v0 0 (m v1 0)) v1 1)) v1 2)) v0 3 ((zup (zup (zup m v0 0 (m v1 0)) v0 1 ((zup m v0 0 (m v1 0)) v1 1)) v0 2 ((zup (zup m v0 0 (m v1 0)) v0 1 ((zup m v0 0 (m v1 0)) v1 1)) v1 2)) v1 3)) v0 4) 0 25) v1 5) 0 ((zcpy (zup (zup (zup (zup m v0 0 (m v1 0)) v0 1 ((zup m v0 0 (m v1 0)) v1 1)) v0 2 ((zup (zup m v0 0 (m v1 0)) v0 1 ((zup m v0 0 (m v1 0)) v1 1)) v1 2)) v0 3 ((zup (zup (zup m v0 0 (m v1 0)) v0 1 ((zup m v0 0 (m v1 0)) v1 1)) v0 2 ((zup (zup m v0 0 (m v1 0)) v0 1 ((zup m v0 0 (m v1 0)) v1 1)) v1 2)) v1 3)) ((zup (zup (zup (zup m v0 0 (m v1 0)) v0 1 ((zup m v0 0 (m v1 0)) v1 1)) v0 2 ((zup (zup m v0 0 (m v1 0)) v0 1 ((zup m v0 0 (m v1 0)) v1 1)) v1 2)) v0 3 ((zup (zup (zup m v0 0 (m v1 0)) v0 1 ((zup m v0 0 (m v1 0)) v1 1)) v0 2 ((zup (zup m v0 0 (m v1 0)) v0 1 ((zup m v0 0 (m v1 0)) v1 1)) v1 2)) v1 3)) v1 4) 0 ((zup (zup (zup (zup m v0 0 (m v1 0)) v0 1 ((zup m v0 0 (m v1 0)) v1 1)) v0 2 ((zup (zup m v0 0 (m v1 0)) v0 1 ((zup m v0 0 (m v1 0)) v1 1)) v1 2)) v0 3 ((zup (zup (zup m v0 0 (m v1 0)) v0 1 ((zup m v0 0 (m v1 0)) v1 1)) v0 2 ((zup (zup m v0 0 (m v1 0)) v0 1 ((zup m v0 0 (m v1 0)) v1 1)) v1 2)) v1 3)) v0 4) 0 25) v0 5) 0 400) v0 6) 0 na ∧ (0 : Int) ≤ 0 ∧ (0 : Int) ≤ 0 ∧ (0 : Int) ≤ 400 ∧ (0 : Int) + 400 ≤ (nb : Int) ∧ (0 : Int) + 400 ≤ (na : Int) ∧ q (zcpy (zcpy (zcpy (zup (zup (zup (zup m v0 0 (m v1 0)) v0 1 ((zup m v0 0 (m v1 0)) v1 1)) v0 2 ((zup (zup m v0 0 (m v1 0)) v0 1 ((zup m v0 0 (m v1 0)) v1 1)) v1 2)) v0 3 ((zup (zup (zup m v0 0 (m v1 0)) v0 1 ((zup m v0 0 (m v1 0)) v1 1)) v0 2 ((zup (zup m v0 0 (m v1 0)) v0 1 ((zup m v0 0 (m v1 0)) v1 1)) v1 2)) v1 3)) ((zup (zup (zup (zup m v0 0 (m v1 0)) v0 1 ((zup m v0 0 (m v1 0)) v1 1)) v0 2 ((zup (zup m v0 0 (m v1 0)) v0 1 ((zup m v0 0 (m v1 0)) v1 1)) v1 2)) v0 3 ((zup (zup (zup m v0 0 (m v1 0)) v0 1 ((zup m v0 0 (m v1 0)) v1 1)) v0 2 ((zup (zup m v0 0 (m v1 0)) v0 1 ((zup m v0 0 (m v1 0)) v1 1)) v1 2)) v1 3)) v1 4) 0 ((zup (zup (zup (zup m v0 0 (m v1 0)) v0 1 ((zup m v0 0 (m v1 0)) v1 1)) v0 2 ((zup (zup m v0 0 (m v1 0)) v0 1 ((zup m v0 0 (m v1 0)) v1 1)) v1 2)) v0 3 ((zup (zup (zup m v0 0 (m v1 0)) v0 1 ((zup m v0 0 (m v1 0)) v1 1)) v0 2 ((zup (zup m v0 0 (m v1 0)) v0 1 ((zup m v0 0 (m v1 0)) v1 1)) v1 2)) v1 3)) v0 4) 0 25) ((zcpy (zup (zup (zup (zup m v0 0 (m v1 0)) v0 1 ((zup m v0 0 (m v1 0)) v1 1)) v0 2 ((zup (zup m v0 0 (m v1 0)) v0 1 ((zup m v0 0 (m v1 0)) v1 1)) v1 2)) v0 3 ((zup (zup (zup m v0 0 (m v1 0)) v0 1 ((zup m v0 0 (m v1 0)) v1 1)) v0 2 ((zup (zup m v0 0 (m v1 0)) v0 1 ((zup m v0 0 (m v1 0)) v1 1)) v1 2)) v1 3)) ((zup (zup (zup (zup m v0 0 (m v1 0)) v0 1 ((zup m v0 0 (m v1 0)) v1 1)) v0 2 ((zup (zup m v0 0 (m v1 0)) v0 1 ((zup m v0 0 (m v1 0)) v1 1)) v1 2)) v0 3 ((zup (zup (zup m v0 0 (m v1 0)) v0 1 ((zup m v0 0 (m v1 0)) v1 1)) v0 2 ((zup (zup m v0 0 (m v1 0)) v0 1 ((zup m v0 0 (m v1 0)) v1 1)) v1 2)) v1 3)) v1 4) 0 ((zup (zup (zup (zup m v0 0 (m v1 0)) v0 1 ((zup m v0 0 (m v1 0)) v1 1)) v0 2 ((zup (zup m v0 0 (m v1 0)) v0 1 ((zup m v0 0 (m v1 0)) v1 1)) v1 2)) v0 3 ((zup (zup (zup m v0 0 (m v1 0)) v0 1 ((zup m v0 0 (m v1 0)) v1 1)) v0 2 ((zup (zup m v0 0 (m v1 0)) v0 1 ((zup m v0 0 (m v1 0)) v1 1)) v1 2)) v1 3)) v0 4) 0 25) v1 5) 0 ((zcpy (zup (zup (zup (zup m v0 0 (m v1 0)) v0 1 ((zup m v0 0 (m v1 0)) v1 1)) v0 2 ((zup (zup m v0 0 (m v1 0)) v0 1 ((zup m v0 0 (m v1 0)) v1 1)) v1 2)) v0 3 ((zup (zup (zup m v0 0 (m v1 0)) v0 1 ((zup m v0 0 (m v1 0)) v1 1)) v0 2 ((zup (zup m v0 0 (m v1 0)) v0 1 ((zup m v0 0 (m v1 0)) v1 1)) v1 2)) v1 3)) ((zup (zup (zup (zup m v0 0 (m v1 0)) v0 1 ((zup m v0 0 (m v1 0)) v1 1)) v0 2 ((zup (zup m v0 0 (m v1 0)) v0 1 ((zup m v0 0 (m v1 0)) v1 1)) v1 2)) v0 3 ((zup (zup (zup m v0 0 (m v1 0)) v0 1 ((zup m v0 0 (m v1 0)) v1 1)) v0 2 ((zup (zup m v0 0 (m v1 0)) v0 1 ((zup m v0 0 (m v1 0)) v1 1)) v1 2)) v1 3)) v1 4) 0 ((zup (zup (zup (zup m v0 0 (m v1 0)) v0 1 ((zup m v0 0 (m v1 0)) v1 1)) v0 2 ((zup (zup m v0 0 (m v1 0)) v0 1 ((zup m v0 0 (m v1 0)) v1 1)) v1 2)) v0 3 ((zup (zup (zup m v0 0 (m v1 0)) v0 1 ((zup m v0 0 (m v1 0)) v1 1)) v0 2 ((zup (zup m v0 0 (m v1 0)) v0 1 ((zup m v0 0 (m v1 0)) v1 1)) v1 2)) v1 3)) v0 4) 0 25) v0 5) 0 400) ((zcpy (zcpy (zup (zup (zup (zup m v0 0 (m v1 0)) v0 1 ((zup m v0 0 (m v1 0)) v1 1)) v0 2 ((zup (zup m v0 0 (m v1 0)) v0 1 ((zup m v0 0 (m v1 0)) v1 1)) v1 2)) v0 3 ((zup (zup (zup m v0 0 (m v1 0)) v0 1 ((zup m v0 0 (m v1 0)) v1 1)) v0 2 ((zup (zup m v0 0 (m v1 0)) v0 1 ((zup m v0 0 (m v1 0)) v1 1)) v1 2)) v1 3)) ((zup (zup (zup (zup m v0 0 (m v1 0)) v0 1 ((zup m v0 0 (m v1 0)) v1 1)) v0 2 ((zup (zup m v0 0 (m v1 0)) v0 1 ((zup m v0 0 (m v1 0)) v1 1)) v1 2)) v0 3 ((zup (zup (zup m v0 0 (m v1 0)) v0 1 ((zup m v0 0 (m v1 0)) v1 1)) v0 2 ((zup (zup m v0 0 (m v1 0)) v0 1 ((zup m v0 0 (m v1 0)) v1 1)) v1 2)) v1 3)) v1 4) 0 ((zup (zup (zup (zup m v0 0 (m v1 0)) v0 1 ((zup m v0 0 (m v1 0)) v1 1)) v0 2 ((zup (zup m v0 0 (m v1 0)) v0 1 ((zup m v0 0 (m v1 0)) v1 1)) v1 2)) v0 3 ((zup (zup (zup m v0 0 (m v1 0)) v0 1 ((zup m v0 0 (m v1 0)) v1 1)) v0 2 ((zup (zup m v0 0 (m v1 0)) v0 1 ((zup m v0 0 (m v1 0)) v1 1)) v1 2)) v1 3)) v0 4) 0 25) ((zcpy (zup (zup (zup (zup m v0 0 (m v1 0)) v0 1 ((zup m v0 0 (m v1 0)) v1 1)) v0 2 ((zup (zup m v0 0 (m v1 0)) v0 1 ((zup m v0 0 (m v1 0)) v1 1)) v1 2)) v0 3 ((zup (zup (zup m v0 0 (m v1 0)) v0 1 ((zup m v0 0 (m v1 0)) v1 1)) v0 2 ((zup (zup m v0 0 (m v1 0)) v0 1 ((zup m v0 0 (m v1 0)) v1 1)) v1 2)) v1 3)) ((zup (zup (zup (zup m v0 0 (m v1 0)) v0 1 ((zup m v0 0 (m v1 0)) v1 1)) v0 2 ((zup (zup m v0 0 (m v1 0)) v0 1 ((zup m v0 0 (m v1 0)) v1 1)) v1 2)) v0 3 ((zup (zup (zup m v0 0 (m v1 0)) v0 1 ((zup m v0 0 (m v1 0)) v1 1)) v0 2 ((zup (zup m v0 0 (m v1 0)) v0 1 ((zup m v0 0 (m v1 0)) v1 1)) v1 2)) v1 3)) v1 4) 0 ((zup (zup (zup (zup m v0 0 (m v1 0)) v0 1 ((zup m v0 0 (m v1 0)) v1 1)) v0 2 ((zup (zup m v0 0 (m v1 0)) v0 1 ((zup m v0 0 (m v1 0)) v1 1)) v1 2)) v0 3 ((zup (zup (zup m v0 0 (m v1 0)) v0 1 ((zup m v0 0 (m v1 0)) v1 1)) v0 2 ((zup (zup m v0 0 (m v1 0)) v0 1 ((zup m v0 0 (m v1 0)) v1 1)) v1 2)) v1 3)) v0 4) 0 25) v1 5) 0 ((zcpy (zup (zup (zup (zup m v0 0 (m v1 0)) v0 1 ((zup m v0 0 (m v1 0)) v1 1)) v0 2 ((zup (zup m v0 0 (m v1 0)) v0 1 ((zup m v0 0 (m v1 0)) v1 1)) v1 2)) v0 3 ((zup (zup (zup m v0 0 (m v1 0)) v0 1 ((zup m v0 0 (m v1 0)) v1 1)) v0 2 ((zup (zup m v0 0 (m v1 0)) v0 1 ((zup m v0 0 (m v1 0)) v1 1)) v1 2)) v1 3)) ((zup (zup (zup (zup m v0 0 (m v1 0)) v0 1 ((zup m v0 0 (m v1 0)) v1 1)) v0 2 ((zup (zup m v0 0 (m v1 0)) v0 1 ((zup m v0 0 (m v1 0)) v1 1)) v1 2)) v0 3 ((zup (zup (zup m v0 0 (m v1 0)) v0 1 ((zup m v0 0 (m v1 0)) v1 1)) v0 2 ((zup (zup m v0 0 (m v1 0)) v0 1 ((zup m v0 0 (m v1 0)) v1 1)) v1 2)) v1 3)) v1 4) 0 ((zup (zup (zup (zup m v0 0 (m v1 0)) v0 1 ((zup m v0 0 (m v1 0)) v1 1)) v0 2 ((zup (zup m v0 0 (m v1 0)) v0 1 ((zup m v0 0 (m v1 0)) v1 1)) v1 2)) v0 3 ((zup (zup (zup m v0 0 (m v1 0)) v0 1 ((zup m v0 0 (m v1 0)) v1 1)) v0 2 ((zup (zup m v0 0 (m v1 0)) v0 1 ((zup m v0 0 (m v1 0)) v1 1)) v1 2)) v1 3)) v0 4) 0 25) v0 5) 0 400) v1 6) 0 ((zcpy (zcpy (zup (zup (zup (zup m v0 0 (m v1 0)) v0 1 ((zup m v0 0 (m v1 0)) v1 1)) v0 2 ((zup (zup m v0 0 (m v1 0)) v0 1 ((zup m v0 0 (m v1 0)) v1 1)) v1 2)) v0 3 ((zup (zup (zup m v0 0 (m v1 0)) v0 1 ((zup m v0 0 (m v1 0)) v1 1)) v0 2 ((zup (zup m v0 0 (m v1 0)) v0 1 ((zup m v0 0 (m v1 0)) v1 1)) v1 2)) v1 3)) ((zup (zup (zup (zup m v0 0 (m v1 0)) v0 1 ((zup m v0 0 (m v1 0)) v1 1)) v0 2 ((zup (zup m v0 0 (m v1 0)) v0 1 ((zup m v0 0 (m v1 0)) v1 1)) v1 2)) v0 3 ((zup (zup (zup m v0 0 (m v1 0)) v0 1 ((zup m v0 0 (m v1 0)) v1 1)) v0 2 ((zup (zup m v0 0 (m v1 0)) v0 1 ((zup m v0 0 (m v1 0)) v1 1)) v1 2)) v1 3)) v1 4) 0 ((zup (zup (zup (zup m v0 0 (m v1 0)) v0 1 ((zup m v0 0 (m v1 0)) v1 1)) v0 2 ((zup (zup m v0 0 (m v1 0)) v0 1 ((zup m v0 0 (m v1 0)) v1 1)) v1 2)) v0 3 ((zup (zup (zup m v0 0 (m v1 0)) v0 1 ((zup m v0 0 (m v1 0)) v1 1)) v0 2 ((zup (zup m v0 0 (m v1 0)) v0 1 ((zup m v0 0 (m v1 0)) v1 1)) v1 2)) v1 3)) v0 4) 0 25) ((zcpy (zup (zup (zup (zup m v0 0 (m v1 0)) v0 1 ((zup m v0 0 (m v1 0)) v1 1)) v0 2 ((zup (zup m v0 0 (m v1 0)) v0 1 ((zup m v0 0 (m v1 0)) v1 1)) v1 2)) v0 3 ((zup (zup (zup m v0 0 (m v1 0)) v0 1 ((zup m v0 0 (m v1 0)) v1 1)) v0 2 ((zup (zup m v0 0 (m v1 0)) v0 1 ((zup m v0 0 (m v1 0)) v1 1)) v1 2)) v1 3)) ((zup (zup (zup (zup m v0 0 (m v1 0)) v0 1 ((zup m v0 0 (m v1 0)) v1 1)) v0 2 ((zup (zup m v0 0 (m v1 0)) v0 1 ((zup m v0 0 (m v1 0)) v1 1)) v1 2)) v0 3 ((zup (zup (zup m v0 0 (m v1 0)) v0 1 ((zup m v0 0 (m v1 0)) v1 1)) v0 2 ((zup (zup m v0 0 (m v1 0)) v0 1 ((zup m v0 0 (m v1 0)) v1 1)) v1 2)) v1 3)) v1 4) 0 ((zup (zup (zup (zup m v0 0 (m v1 0)) v0 1 ((zup m v0 0 (m v1 0)) v1 1)) v0 2 ((zup (zup m v0 0 (m v1 0)) v0 1 ((zup m v0 0 (m v1 0)) v1 1)) v1 2)) v0 3 ((zup (zup (zup m v0 0 (m v1 0)) v0 1 ((zup m v0 0 (m v1 0)) v1 1)) v0 2 ((zup (zup m v0 0 (m v1 0)) v0 1 ((zup m v0 0 (m v1 0)) v1 1)) v1 2)) v1 3)) v0 4) 0 25) v1 5) 0 ((zcpy (zup (zup (zup (zup m v0 0 (m v1 0)) v0 1 ((zup m v0 0 (m v1 0)) v1 1)) v0 2 ((zup (zup m v0 0 (m v1 0)) v0 1 ((zup m v0 0 (m v1 0)) v1 1)) v1 2)) v0 3 ((zup (zup (zup m v0 0 (m v1 0)) v0 1 ((zup m v0 0 (m v1 0)) v1 1)) v0 2 ((zup (zup m v0 0 (m v1 0)) v0 1 ((zup m v0 0 (m v1 0)) v1 1)) v1 2)) v1 3)) ((zup (zup (zup (zup m v0 0 (m v1 0)) v0 1 ((zup m v0 0 (m v1 0)) v1 1)) v0 2 ((zup (zup m v0 0 (m v1 0)) v0 1 ((zup m v0 0 (m v1 0)) v1 1)) v1 2)) v0 3 ((zup (zup (zup m v0 0 (m v1 0)) v0 1 ((zup m v0 0 (m v1 0)) v1 1)) v0 2 ((zup (zup m v0 0 (m v1 0)) v0 1 ((zup m v0 0 (m v1 0)) v1 1)) v1 2)) v1 3)) v1 4) 0 ((zup (zup (zup (zup m v0 0 (m v1 0)) v0 1 ((zup m v0 0 (m v1 0)) v1 1)) v0 2 ((zup (zup m v0 0 (m v1 0)) v0 1 ((zup m v0 0 (m v1 0)) v1 1)) v1 2)) v0 3 ((zup (zup (zup m v0 0 (m v1 0)) v0 1 ((zup m v0 0 (m v1 0)) v1 1)) v0 2 ((zup (zup m v0 0 (m v1 0)) v0 1 ((zup m v0 0 (m v1 0)) v1 1)) v1 2)) v1 3)) v0 4) 0 25) v0 5) 0 400) v0 6) 0 400)))))))) : CtV (d + 1) M_Game_become [(2, v0), (2, v1)] kd m q :=
  Ct.start k_Game_become (Nat.le_of_ble_eq_true rfl) ⟨0, Or.inl ⟨rfl, rfl⟩⟩ (T_Game_become_0 h)
set_option maxRecDepth 20000 in
set_option maxHeartbeats 1000000 in
theorem T_Game_becomeFlipped_0 {d : Nat} {kd : ZK} {m : ZM} {q : ZM → Prop} {v0 v1 : Int} (h : (zobj kd v1 1 ∧ zobj kd v0 1 ∧ zobj kd v1 1 ∧ zobj kd v0 1 ∧ zobj kd v1 1 ∧ zobj kd v0 1 ∧ zobj kd v1 1 ∧ zobj kd v0 1 ∧ (Ev (d + 1) M_Game_becomeFlipped 0 0 34 [(2, v0), (2, v1), (0, 0), zJ] [] kd (zup (zup (zup (zup m v0 0 (m v1 1)) v0 1 ((zup m v0 0 (m v1 1)) v1 0)) v0 2 ((zup (zup m v0 0 (m v1 1)) v0 1 ((zup m v0 0 (m v1 1)) v1 0)) v1 3)) v0 3 ((zup (zup (zup m v0 0 (m v1 1)) v0 1 ((zup m v0 0 (m v1 1)) v1 0)) v0 2 ((zup (zup m v0 0 (m v1 1)) v0 1 ((zup m v0 0 (m v1 1)) v1 0)) v1 3)) v1 2)) (zqV kd q)))) : Ev (d + 1) M_Game_becomeFlipped 0 0 0 [(2, v0), (2, v1), zJ, zJ] [] kd m (zqV kd q) := by
  obtain ⟨o1, o2, o3, o4, o5, o6, o7, o8, h⟩ := h
  refine EvX.blk (pc' := 34) [(.aload_n 0, 0, 0), (.aload_n 1, 0, 0), (.getfield 15, 1, 1), (.putfield 11, 1, 0), (.aload_n 0, 0, 0), (.aload_n 1, 0, 0), (.getfield 11, 1, 0), (.putfield 15, 1, 1), (.aload_n 0, 0, 0), (.aload_n 1, 0, 0), (.getfield 21, 1, 3), (.putfield 18, 1, 2), (.aload_n 0, 0, 0), (.aload_n 1, 0, 0), (.getfield 18, 1, 2), (.putfield 21, 1, 3), (.iconst 0, 0, 0), (.istore_n 2, 0, 0)] (by decide +kernel) ⟨g_Game_15, ⟨g_Game_11, p_Game_11⟩, g_Game_11, ⟨g_Game_15, p_Game_15⟩, g_Game_21, ⟨g_Game_18, p_Game_18⟩, g_Game_18, ⟨g_Game_21, p_Game_21⟩, trivial⟩ ⟨o1, rfl, o2, o3, rfl, o4, o5, rfl, o6, o7, rfl, o8, ?_⟩
  show Ev (d + 1) M_Game_becomeFlipped 0 0 34 [(2, v0), (2, v1), (0, 0), zJ] [] kd (zup (zup (zup (zup m v0 0 (m v1 1)) v0 1 ((zup m v0 0 (m v1 1)) v1 0)) v0 2 ((zup (zup m v0 0 (m v1 1)) v0 1 ((zup m v0 0 (m v1 1)) v1 0)) v1 3)) v0 3 ((zup (zup (zup m v0 0 (m v1 1)) v0 1 ((zup m v0 0 (m v1 1)) v1 0)) v0 2 ((zup (zup m v0 0 (m v1 1)) v0 1 ((zup m v0 0 (m v1 1)) v1 0)) v1 3)) v1 2)) (zqV kd q)
  exact h
theorem S_Game_becomeFlipped {d : Nat} {kd : ZK} {m : ZM} {q : ZM → Prop} {v0 v1 : Int} (h : (zobj kd v1 1 ∧ zobj kd v0 1 ∧ zobj kd v1 1 ∧ zobj kd v0 1 ∧ zobj kd v1 1 ∧ zobj kd v0 1 ∧ zobj kd v1 1 ∧ zobj kd v0 1 ∧ (Ev (d + 1) M_Game_becomeFlipped 0 0 34 [(2, v0), (2, v1), (0, 0), zJ] [] kd (zup (zup (zup (zup m v0 0 (m v1 1)) v0 1 ((zup m v0 0 (m v1 1)) v1 0)) v0 2 ((zup (zup m v0 0 (m v1 1)) v0 1 ((zup m v0 0 (m v1 1)) v1 0)) v1 3)) v0 3 ((zup (zup (zup m v0 0 (m v1 1)) v0 1 ((zup m v0 0 (m v1 1)) v1 0)) v0 2 ((zup (zup m v0 0 (m v1 1)) v0 1 ((zup m v0 0 (m v1 1)) v1 0)) v1 3)) v1 2)) (zqV kd q)))) : CtV (d + 1) M_Game_becomeFlipped [(2, v0), (2, v1)] kd m q :=
  Ct.start k_Game_becomeFlipped (Nat.le_of_ble_eq_true rfl) ⟨0, Or.inl ⟨rfl, rfl⟩⟩ (T_Game_becomeFlipped_0 h)
set_option maxRecDepth 20000 in
set_option maxHeartbeats 1000000 in
theorem T_Game_becomeFlipped_34 {d : Nat} {kd : ZK} {m : ZM} {q : ZM → Prop} {v0 v1 v2 : Int} (h : (zobj kd v0 1 ∧ (((m v0 0) ≤ v2 → q m) ∧ (¬ (m v0 0) ≤ v2 → (Ev (d + 1) M_Game_becomeFlipped 0 0 44 [(2, v0), (2, v1), (0, v2), (0, 0)] [] kd m (zqV kd q)))))) : Ev (d + 1) M_Game_becomeFlipped 0 0 34 [(2, v0), (2, v1), (0, v2), zJ] [] kd m (zqV kd q) := by
  obtain ⟨o1, h⟩ := h
  refine EvX.blk (pc' := 39) [(.iload_n 2, 0, 0), (.aload_n 0, 0, 0), (.getfield 11, 1, 0)] (by decide +kernel) ⟨g_Game_11, trivial⟩ ⟨o1, ?_⟩
  show Ev (d + 1) M_Game_becomeFlipped 0 0 39 [(2, v0), (2, v1), (0, v2), zJ] [(0, m v0 0), (0, v2)] kd m (zqV kd q)
  refine EvX.icmp_ge (off := 54) (tgt := 93) (by decide +kernel) (by decide) (fun hc => ?_) (fun hc => ?_)
  · have h := h.1 hc
    exact EvX.ret (r := zJ) (by decide +kernel) rfl ⟨rfl, rfl, h⟩
  · have h := h.2 hc
    refine EvX.blk (pc' := 44) [(.iconst 0, 0, 0), (.istore_n 3, 0, 0)] (by decide +kernel) trivial ?_
    show Ev (d + 1) M_Game_becomeFlipped 0 0 44 [(2, v0), (2, v1), (0, v2), (0, 0)] [] kd m (zqV kd q)
    exact h
set_option maxRecDepth 20000 in
set_option maxHeartbeats 1000000 in
theorem T_Game_becomeFlipped_44 {d : Nat} {kd : ZK} {m : ZM} {q : ZM → Prop} {v0 v1 v2 v3 : Int} (h : (zobj kd v0 1 ∧ (((m v0 1) ≤ v3 → (Ev (d + 1) M_Game_becomeFlipped 0 0 34 [(2, v0), (2, v1), (0, iw (v2 + 1)), zJ] [] kd m (zqV kd q))) ∧ (¬ (m v0 1) ≤ v3 → (zobj kd v0 1 ∧ (∃ q1, CtI d M_Ap_cellOf [(0, 0), (0, v2), (0, v3)] kd m q1 ∧ ∀ x2 m3, q1 x2 m3 → (zobj kd v1 1 ∧ (∃ q4, CtI d M_Ap_cellOf [(0, 1), (0, v2), (0, v3)] kd m3 q4 ∧ ∀ x5 m6, q4 x5 m6 → (zIn kd (m3 v1 4) 0 x5 ∧ zIn kd (m v0 4) 0 x2 ∧ (zobj kd v0 1 ∧ ∃ q7, CtV d M_Game_flipAnswers [(2, v0), (2, v1), (0, v2), (0, v3)] kd (zup m6 (m v0 4) x2 (m6 (m3 v1 4) x5)) q7 ∧ ∀ m9, q7 m9 → (Ev (d + 1) M_Game_becomeFlipped 0 0 44 [(2, v0), (2, v1), (0, v2), (0, iw (v3 + 1))] [] kd m9 (zqV kd q)))))))))))) : Ev (d + 1) M_Game_becomeFlipped 0 0 44 [(2, v0), (2, v1), (0, v2), (0, v3)] [] kd m (zqV kd q) := by
  obtain ⟨o1, h⟩ := h
  refine EvX.blk (pc' := 49) [(.iload_n 3, 0, 0), (.aload_n 0, 0, 0), (.getfield 15, 1, 1)] (by decide +kernel) ⟨g_Game_15, trivial⟩ ⟨o1, ?_⟩
  show Ev (d + 1) M_Game_becomeFlipped 0 0 49 [(2, v0), (2, v1), (0, v2), (0, v3)] [(0, m v0 1), (0, v3)] kd m (zqV kd q)
  refine EvX.icmp_ge (off := 38) (tgt := 87) (by decide +kernel) (by decide) (fun hc => ?_) (fun hc => ?_)
  · have h := h.1 hc
    refine EvX.blk (pc' := 90) [(.iinc 2 1, 0, 0)] (by decide +kernel) trivial ?_
    show Ev (d + 1) M_Game_becomeFlipped 0 0 90 [(2, v0), (2, v1), (0, iw (v2 + 1)), (0, v3)] [] kd m (zqV kd q)
    refine EvX.goto (off := (-56)) (tgt := 34) (by decide +kernel) (by decide) ?_
    exact EvX.weak (ls2 := [(2, v0), (2, v1), (0, iw (v2 + 1)), zJ]) (zwk_of ⟨Or.inr rfl, Or.inr rfl, Or.inr rfl, Or.inl rfl, trivial⟩) h
  · have h := h.2 hc
    obtain ⟨o1, h⟩ := h
    refine EvX.blk (pc' := 59) [(.aload_n 0, 0, 0), (.getfield 24, 1, 4), (.iconst 0, 0, 0), (.iload_n 2, 0, 0), (.iload_n 3, 0, 0)] (by decide +kernel) ⟨g_Game_24, trivial⟩ ⟨o1, ?_⟩
    show Ev (d + 1) M_Game_becomeFlipped 0 0 59 [(2, v0), (2, v1), (0, v2), (0, v3)] [(0, v3), (0, v2), (0, 0), (2, m v0 4)] kd m (zqV kd q)
    obtain ⟨q1, hq, h⟩ := h
    refine EvX.callS (mc := 0) (ms := 0) (as := [(0, 0), (0, v2), (0, v3)]) (st := [(2, m v0 4)]) (by decide +kernel) l_Game_40 k_Ap_cellOf s_Ap_cellOf a_Ap_cellOf (by decide) (Nat.le_of_ble_eq_true rfl) hq (fun r kd1 m3 hr => ?_)
    obtain ⟨x2, rfl, hk, hr⟩ := hr
    subst kd1
    have h := h x2 m3 hr
    show Ev (d + 1) M_Game_becomeFlipped 0 0 62 [(2, v0), (2, v1), (0, v2), (0, v3)] [(0, x2), (2, m v0 4)] kd m3 (zqV kd q)
    obtain ⟨o1, h⟩ := h
    refine EvX.blk (pc' := 69) [(.aload_n 1, 0, 0), (.getfield 24, 1, 4), (.iconst 1, 0, 0), (.iload_n 2, 0, 0), (.iload_n 3, 0, 0)] (by decide +kernel) ⟨g_Game_24, trivial⟩ ⟨o1, ?_⟩
    show Ev (d + 1) M_Game_becomeFlipped 0 0 69 [(2, v0), (2, v1), (0, v2), (0, v3)] [(0, v3), (0, v2), (0, 1), (2, m3 v1 4), (0, x2), (2, m v0 4)] kd m3 (zqV kd q)
    obtain ⟨q4, hq, h⟩ := h
    refine EvX.callS (mc := 0) (ms := 0) (as := [(0, 1), (0, v2), (0, v3)]) (st := [(2, m3 v1 4), (0, x2), (2, m v0 4)]) (by decide +kernel) l_Game_40 k_Ap_cellOf s_Ap_cellOf a_Ap_cellOf (by decide) (Nat.le_of_ble_eq_true rfl) hq (fun r kd1 m6 hr => ?_)
    obtain ⟨x5, rfl, hk, hr⟩ := hr
    subst kd1
    have h := h x5 m6 hr
    show Ev (d + 1) M_Game_becomeFlipped 0 0 72 [(2, v0), (2, v1), (0, v2), (0, v3)] [(0, x5), (2, m3 v1 4), (0, x2), (2, m v0 4)] kd m6 (zqV kd q)
    obtain ⟨o1, o2, h⟩ := h
    refine EvX.blk (pc' := 78) [(.iaload, 0, 0), (.iastore, 0, 0), (.aload_n 0, 0, 0), (.aload_n 1, 0, 0), (.iload_n 2, 0, 0), (.iload_n 3, 0, 0)] (by decide +kernel) trivial ⟨o1, o2, ?_⟩
    show Ev (d + 1) M_Game_becomeFlipped 0 0 78 [(2, v0), (2, v1), (0, v2), (0, v3)] [(0, v3), (0, v2), (2, v1), (2, v0)] kd (zup m6 (m v0 4) x2 (m6 (m3 v1 4) x5)) (zqV kd q)
    obtain ⟨ov, h⟩ := h
    obtain ⟨q7, hq, h⟩ := h
    refine EvX.callV (c := 1) (mc := 0) (ms := 0) (as := [(2, v1), (0, v2), (0, v3)]) (st := []) (by decide +kernel) l_Game_44 k_Game_flipAnswers v_Game_flipAnswers a_Game_flipAnswers (by decide) (Nat.le_of_ble_eq_true rfl) rfl ov hq (fun r kd1 m9 hr => ?_)
    obtain ⟨rfl, hk, hr⟩ := hr
    subst kd1
    have h := h m9 hr
    show Ev (d + 1) M_Game_becomeFlipped 0 0 81 [(2, v0), (2, v1), (0, v2), (0, v3)] [] kd m9 (zqV kd q)
    refine EvX.blk (pc' := 84) [(.iinc 3 1, 0, 0)] (by decide +kernel) trivial ?_
    show Ev (d + 1) M_Game_becomeFlipped 0 0 84 [(2, v0), (2, v1), (0, v2), (0, iw (v3 + 1))] [] kd m9 (zqV kd q)
    refine EvX.goto (off := (-40)) (tgt := 44) (by decide +kernel) (by decide) ?_
    exact h
set_option maxRecDepth 20000 in
set_option maxHeartbeats 1000000 in
theorem T_Game_flipAnswers_0 {d : Nat} {kd : ZK} {m : ZM} {q : ZM → Prop} {v0 v1 v2 v3 : Int} (h : (Ev (d + 1) M_Game_flipAnswers 0 0 3 [(2, v0), (2, v1), (0, v2), (0, v3), (0, 0), zJ, zJ, zJ] [] kd m (zqV kd q))) : Ev (d + 1) M_Game_flipAnswers 0 0 0 [(2, v0), (2, v1), (0, v2), (0, v3), zJ, zJ, zJ, zJ] [] kd m (zqV kd q) := by
  refine EvX.blk (pc' := 3) [(.iconst 0, 0, 0), (.istore 4, 0, 0)] (by decide +kernel) trivial ?_
  show Ev (d + 1) M_Game_flipAnswers 0 0 3 [(2, v0), (2, v1), (0, v2), (0, v3), (0, 0), zJ, zJ, zJ] [] kd m (zqV kd q)
  exact h
theorem S_Game_flipAnswers {d : Nat} {kd : ZK} {m : ZM} {q : ZM → Prop} {v0 v1 v2 v3 : Int} (h : (Ev (d + 1) M_Game_flipAnswers 0 0 3 [(2, v0), (2, v1), (0, v2), (0, v3), (0, 0), zJ, zJ, zJ] [] kd m (zqV kd q))) : CtV (d + 1) M_Game_flipAnswers [(2, v0), (2, v1), (0, v2), (0, v3)] kd m q :=
  Ct.start k_Game_flipAnswers (Nat.le_of_ble_eq_true rfl) ⟨0, Or.inl ⟨rfl, rfl⟩⟩ (T_Game_flipAnswers_0 h)
set_option maxRecDepth 20000 in
set_option maxHeartbeats 1000000 in
theorem T_Game_flipAnswers_3 {d : Nat} {kd : ZK} {m : ZM} {q : ZM → Prop} {v0 v1 v2 v3 v4 : Int} (h : (zobj kd v0 1 ∧ (((m v0 2) ≤ v4 → q m) ∧ (¬ (m v0 2) ≤ v4 → (Ev (d + 1) M_Game_flipAnswers 0 0 15 [(2, v0), (2, v1), (0, v2), (0, v3), (0, v4), (0, 0), zJ, zJ] [] kd m (zqV kd q)))))) : Ev (d + 1) M_Game_flipAnswers 0 0 3 [(2, v0), (2, v1), (0, v2), (0, v3), (0, v4), zJ, zJ, zJ] [] kd m (zqV kd q) := by
  obtain ⟨o1, h⟩ := h
  refine EvX.blk (pc' := 9) [(.iload 4, 0, 0), (.aload_n 0, 0, 0), (.getfield 18, 1, 2)] (by decide +kernel) ⟨g_Game_18, trivial⟩ ⟨o1, ?_⟩
  show Ev (d + 1) M_Game_flipAnswers 0 0 9 [(2, v0), (2, v1), (0, v2), (0, v3), (0, v4), zJ, zJ, zJ] [(0, m v0 2), (0, v4)] kd m (zqV kd q)
  refine EvX.icmp_ge (off := 79) (tgt := 88) (by decide +kernel) (by decide) (fun hc => ?_) (fun hc => ?_)
  · have h := h.1 hc
    exact EvX.ret (r := zJ) (by decide +kernel) rfl ⟨rfl, rfl, h⟩
  · have h := h.2 hc
    refine EvX.blk (pc' := 15) [(.iconst 0, 0, 0), (.istore 5, 0, 0)] (by decide +kernel) trivial ?_
    show Ev (d + 1) M_Game_flipAnswers 0 0 15 [(2, v0), (2, v1), (0, v2), (0, v3), (0, v4), (0, 0), zJ, zJ] [] kd m (zqV kd q)
    exact h
set_option maxRecDepth 20000 in
set_option maxHeartbeats 1000000 in
theorem T_Game_flipAnswers_15 {d : Nat} {kd : ZK} {m : ZM} {q : ZM → Prop} {v0 v1 v2 v3 v4 v5 : Int} (h : (zobj kd v0 1 ∧ (((m v0 3) ≤ v5 → (Ev (d + 1) M_Game_flipAnswers 0 0 3 [(2, v0), (2, v1), (0, v2), (0, v3), (0, iw (v4 + 1)), zJ, zJ, zJ] [] kd m (zqV kd q))) ∧ (¬ (m v0 3) ≤ v5 → (∃ q1, CtI d M_Ap_spotOf [(0, 0), (0, v2), (0, v3), (0, v4), (0, v5)] kd m q1 ∧ ∀ x2 m3, q1 x2 m3 → (∃ q4, CtI d M_Ap_spotOf [(0, 1), (0, v2), (0, v3), (0, v4), (0, v5)] kd m3 q4 ∧ ∀ x5 m6, q4 x5 m6 → (zobj kd v0 1 ∧ zobj kd v1 1 ∧ zIn kd (m6 v1 5) 0 x5 ∧ zIn kd (m6 v0 5) 0 x2 ∧ zobj kd v0 1 ∧ zobj kd v1 1 ∧ zIn kd ((zup m6 (m6 v0 5) x2 (m6 (m6 v1 5) x5)) v1 6) 0 x5 ∧ zIn kd ((zup m6 (m6 v0 5) x2 (m6 (m6 v1 5) x5)) v0 6) 0 x2 ∧ (Ev (d + 1) M_Game_flipAnswers 0 0 15 [(2, v0), (2, v1), (0, v2), (0, v3), (0, v4), (0, iw (v5 + 1)), zJ, zJ] [] kd (zup (zup m6 (m6 v0 5) x2 (m6 (m6 v1 5) x5)) ((zup m6 (m6 v0 5) x2 (m6 (m6 v1 5) x5)) v0 6) x2 ((zup m6 (m6 v0 5) x2 (m6 (m6 v1 5) x5)) ((zup m6 (m6 v0 5) x2 (m6 (m6 v1 5) x5)) v1 6) x5)) (zqV kd q))))))))) : Ev (d + 1) M_Game_flipAnswers 0 0 15 [(2, v0), (2, v1), (0, v2), (0, v3), (0, v4), (0, v5), zJ, zJ] [] kd m (zqV kd q) := by
  obtain ⟨o1, h⟩ := h
  refine EvX.blk (pc' := 21) [(.iload 5, 0, 0), (.aload_n 0, 0, 0), (.getfield 21, 1, 3)] (by decide +kernel) ⟨g_Game_21, trivial⟩ ⟨o1, ?_⟩
  show Ev (d + 1) M_Game_flipAnswers 0 0 21 [(2, v0), (2, v1), (0, v2), (0, v3), (0, v4), (0, v5), zJ, zJ] [(0, m v0 3), (0, v5)] kd m (zqV kd q)
  refine EvX.icmp_ge (off := 61) (tgt := 82) (by decide +kernel) (by decide) (fun hc => ?_) (fun hc => ?_)
  · have h := h.1 hc
    refine EvX.blk (pc' := 85) [(.iinc 4 1, 0, 0)] (by decide +kernel) trivial ?_
    show Ev (d + 1) M_Game_flipAnswers 0 0 85 [(2, v0), (2, v1), (0, v2), (0, v3), (0, iw (v4 + 1)), (0, v5), zJ, zJ] [] kd m (zqV kd q)
    refine EvX.goto (off := (-82)) (tgt := 3) (by decide +kernel) (by decide) ?_
    exact EvX.weak (ls2 := [(2, v0), (2, v1), (0, v2), (0, v3), (0, iw (v4 + 1)), zJ, zJ, zJ]) (zwk_of ⟨Or.inr rfl, Or.inr rfl, Or.inr rfl, Or.inr rfl, Or.inr rfl, Or.inl rfl, Or.inl rfl, Or.inl rfl, trivial⟩) h
  · have h := h.2 hc
    refine EvX.blk (pc' := 31) [(.iconst 0, 0, 0), (.iload_n 2, 0, 0), (.iload_n 3, 0, 0), (.iload 4, 0, 0), (.iload 5, 0, 0)] (by decide +kernel) trivial ?_
    show Ev (d + 1) M_Game_flipAnswers 0 0 31 [(2, v0), (2, v1), (0, v2), (0, v3), (0, v4), (0, v5), zJ, zJ] [(0, v5), (0, v4), (0, v3), (0, v2), (0, 0)] kd m (zqV kd q)
    obtain ⟨q1, hq, h⟩ := h
    refine EvX.callS (mc := 0) (ms := 0) (as := [(0, 0), (0, v2), (0, v3), (0, v4), (0, v5)]) (st := []) (by decide +kernel) l_Game_48 k_Ap_spotOf s_Ap_spotOf a_Ap_spotOf (by decide) (Nat.le_of_ble_eq_true rfl) hq (fun r kd1 m3 hr => ?_)
    obtain ⟨x2, rfl, hk, hr⟩ := hr
    subst kd1
    have h := h x2 m3 hr
    show Ev (d + 1) M_Game_flipAnswers 0 0 34 [(2, v0), (2, v1), (0, v2), (0, v3), (0, v4), (0, v5), zJ, zJ] [(0, x2)] kd m3 (zqV kd q)
    refine EvX.blk (pc' := 43) [(.istore 6, 0, 0), (.iconst 1, 0, 0), (.iload_n 2, 0, 0), (.iload_n 3, 0, 0), (.iload 4, 0, 0), (.iload 5, 0, 0)] (by decide +kernel) trivial ?_
    show Ev (d + 1) M_Game_flipAnswers 0 0 43 [(2, v0), (2, v1), (0, v2), (0, v3), (0, v4), (0, v5), (0, x2), zJ] [(0, v5), (0, v4), (0, v3), (0, v2), (0, 1)] kd m3 (zqV kd q)
    obtain ⟨q4, hq, h⟩ := h
    refine EvX.callS (mc := 0) (ms := 0) (as := [(0, 1), (0, v2), (0, v3), (0, v4), (0, v5)]) (st := []) (by decide +kernel) l_Game_48 k_Ap_spotOf s_Ap_spotOf a_Ap_spotOf (by decide) (Nat.le_of_ble_eq_true rfl) hq (fun r kd1 m6 hr => ?_)
    obtain ⟨x5, rfl, hk, hr⟩ := hr
    subst kd1
    have h := h x5 m6 hr
    show Ev (d + 1) M_Game_flipAnswers 0 0 46 [(2, v0), (2, v1), (0, v2), (0, v3), (0, v4), (0, v5), (0, x2), zJ] [(0, x5)] kd m6 (zqV kd q)
    obtain ⟨o1, o2, o3, o4, o5, o6, o7, o8, h⟩ := h
    refine EvX.blk (pc' := 79) [(.istore 7, 0, 0), (.aload_n 0, 0, 0), (.getfield 28, 1, 5), (.iload 6, 0, 0), (.aload_n 1, 0, 0), (.getfield 28, 1, 5), (.iload 7, 0, 0), (.iaload, 0, 0), (.iastore, 0, 0), (.aload_n 0, 0, 0), (.getfield 31, 1, 6), (.iload 6, 0, 0), (.aload_n 1, 0, 0), (.getfield 31, 1, 6), (.iload 7, 0, 0), (.iaload, 0, 0), (.iastore, 0, 0), (.iinc 5 1, 0, 0)] (by decide +kernel) ⟨g_Game_28, g_Game_28, g_Game_31, g_Game_31, trivial⟩ ⟨o1, o2, o3, o4, o5, o6, o7, o8, ?_⟩
    show Ev (d + 1) M_Game_flipAnswers 0 0 79 [(2, v0), (2, v1), (0, v2), (0, v3), (0, v4), (0, iw (v5 + 1)), (0, x2), (0, x5)] [] kd (zup (zup m6 (m6 v0 5) x2 (m6 (m6 v1 5) x5)) ((zup m6 (m6 v0 5) x2 (m6 (m6 v1 5) x5)) v0 6) x2 ((zup m6 (m6 v0 5) x2 (m6 (m6 v1 5) x5)) ((zup m6 (m6 v0 5) x2 (m6 (m6 v1 5) x5)) v1 6) x5)) (zqV kd q)
    refine EvX.goto (off := (-64)) (tgt := 15) (by decide +kernel) (by decide) ?_
    exact EvX.weak (ls2 := [(2, v0), (2, v1), (0, v2), (0, v3), (0, v4), (0, iw (v5 + 1)), zJ, zJ]) (zwk_of ⟨Or.inr rfl, Or.inr rfl, Or.inr rfl, Or.inr rfl, Or.inr rfl, Or.inr rfl, Or.inl rfl, Or.inl rfl, trivial⟩) h
set_option maxRecDepth 20000 in
set_option maxHeartbeats 1000000 in
theorem T_Game_start_0 {d : Nat} {kd : ZK} {m : ZM} {q : ZM → Prop} {v0 v1 v2 v3 v4 : Int} (h : (zobj kd v0 1 ∧ zobj kd v0 1 ∧ zobj kd v0 1 ∧ zobj kd v0 1 ∧ (Ev (d + 1) M_Game_start 0 0 24 [(2, v0), zJ, zJ, zJ, zJ, (0, 0)] [] kd (zup (zup (zup (zup m v0 0 v1) v0 1 v2) v0 2 v3) v0 3 v4) (zqV kd q)))) : Ev (d + 1) M_Game_start 0 0 0 [(2, v0), (0, v1), (0, v2), (0, v3), (0, v4), zJ] [] kd m (zqV kd q) := by
  obtain ⟨o1, o2, o3, o4, h⟩ := h
  refine EvX.blk (pc' := 24) [(.aload_n 0, 0, 0), (.iload_n 1, 0, 0), (.putfield 11, 1, 0), (.aload_n 0, 0, 0), (.iload_n 2, 0, 0), (.putfield 15, 1, 1), (.aload_n 0, 0, 0), (.iload_n 3, 0, 0), (.putfield 18, 1, 2), (.aload_n 0, 0, 0), (.iload 4, 0, 0), (.putfield 21, 1, 3), (.iconst 0, 0, 0), (.istore 5, 0, 0)] (by decide +kernel) ⟨⟨g_Game_11, p_Game_11⟩, ⟨g_Game_15, p_Game_15⟩, ⟨g_Game_18, p_Game_18⟩, ⟨g_Game_21, p_Game_21⟩, trivial⟩ ⟨rfl, o1, rfl, o2, rfl, o3, rfl, o4, ?_⟩
  show Ev (d + 1) M_Game_start 0 0 24 [(2, v0), (0, v1), (0, v2), (0, v3), (0, v4), (0, 0)] [] kd (zup (zup (zup (zup m v0 0 v1) v0 1 v2) v0 2 v3) v0 3 v4) (zqV kd q)
  exact EvX.weak (ls2 := [(2, v0), zJ, zJ, zJ, zJ, (0, 0)]) (zwk_of ⟨Or.inr rfl, Or.inl rfl, Or.inl rfl, Or.inl rfl, Or.inl rfl, Or.inr rfl, trivial⟩) h
theorem S_Game_start {d : Nat} {kd : ZK} {m : ZM} {q : ZM → Prop} {v0 v1 v2 v3 v4 : Int} (h : (zobj kd v0 1 ∧ zobj kd v0 1 ∧ zobj kd v0 1 ∧ zobj kd v0 1 ∧ (Ev (d + 1) M_Game_start 0 0 24 [(2, v0), zJ, zJ, zJ, zJ, (0, 0)] [] kd (zup (zup (zup (zup m v0 0 v1) v0 1 v2) v0 2 v3) v0 3 v4) (zqV kd q)))) : CtV (d + 1) M_Game_start [(2, v0), (0, v1), (0, v2), (0, v3), (0, v4)] kd m q :=
  Ct.start k_Game_start (Nat.le_of_ble_eq_true rfl) ⟨0, Or.inl ⟨rfl, rfl⟩⟩ (T_Game_start_0 h)
set_option maxRecDepth 20000 in
set_option maxHeartbeats 1000000 in
theorem T_Game_start_24 {d : Nat} {kd : ZK} {m : ZM} {q : ZM → Prop} {v0 v5 : Int} (h : ((25 ≤ v5 → (Ev (d + 1) M_Game_start 0 0 48 [(2, v0), zJ, zJ, zJ, zJ, (0, 0)] [] kd m (zqV kd q))) ∧ (¬ 25 ≤ v5 → (zobj kd v0 1 ∧ zIn kd (m v0 4) 0 v5 ∧ (Ev (d + 1) M_Game_start 0 0 24 [(2, v0), zJ, zJ, zJ, zJ, (0, iw (v5 + 1))] [] kd (zup m (m v0 4) v5 1) (zqV kd q)))))) : Ev (d + 1) M_Game_start 0 0 24 [(2, v0), zJ, zJ, zJ, zJ, (0, v5)] [] kd m (zqV kd q) := by
  refine EvX.blk (pc' := 28) [(.iload 5, 0, 0), (.bipush 25, 0, 0)] (by decide +kernel) trivial ?_
  show Ev (d + 1) M_Game_start 0 0 28 [(2, v0), zJ, zJ, zJ, zJ, (0, v5)] [(0, 25), (0, v5)] kd m (zqV kd q)
  refine EvX.icmp_ge (off := 17) (tgt := 45) (by decide +kernel) (by decide) (fun hc => ?_) (fun hc => ?_)
  · have h := h.1 hc
    refine EvX.blk (pc' := 48) [(.iconst 0, 0, 0), (.istore 5, 0, 0)] (by decide +kernel) trivial ?_
    show Ev (d + 1) M_Game_start 0 0 48 [(2, v0), zJ, zJ, zJ, zJ, (0, 0)] [] kd m (zqV kd q)
    exact h
  · have h := h.2 hc
    obtain ⟨o1, o2, h⟩ := h
    refine EvX.blk (pc' := 42) [(.aload_n 0, 0, 0), (.getfield 24, 1, 4), (.iload 5, 0, 0), (.iconst 1, 0, 0), (.iastore, 0, 0), (.iinc 5 1, 0, 0)] (by decide +kernel) ⟨g_Game_24, trivial⟩ ⟨o1, o2, ?_⟩
    show Ev (d + 1) M_Game_start 0 0 42 [(2, v0), zJ, zJ, zJ, zJ, (0, iw (v5 + 1))] [] kd (zup m (m v0 4) v5 1) (zqV kd q)
    refine EvX.goto (off := (-18)) (tgt := 24) (by decide +kernel) (by decide) ?_
    exact h
set_option maxRecDepth 20000 in
set_option maxHeartbeats 1000000 in
theorem T_Game_start_48 {d : Nat} {kd : ZK} {m : ZM} {q : ZM → Prop} {v0 v5 : Int} (h : ((400 ≤ v5 → q m) ∧ (¬ 400 ≤ v5 → (zobj kd v0 1 ∧ zIn kd (m v0 5) 0 v5 ∧ zobj kd v0 1 ∧ zIn kd ((zup m (m v0 5) v5 0) v0 6) 0 v5 ∧ (Ev (d + 1) M_Game_start 0 0 48 [(2, v0), zJ, zJ, zJ, zJ, (0, iw (v5 + 1))] [] kd (zup (zup m (m v0 5) v5 0) ((zup m (m v0 5) v5 0) v0 6) v5 0) (zqV kd q)))))) : Ev (d + 1) M_Game_start 0 0 48 [(2, v0), zJ, zJ, zJ, zJ, (0, v5)] [] kd m (zqV kd q) := by
  refine EvX.blk (pc' := 53) [(.iload 5, 0, 0), (.sipush 400, 0, 0)] (by decide +kernel) trivial ?_
  show Ev (d + 1) M_Game_start 0 0 53 [(2, v0), zJ, zJ, zJ, zJ, (0, v5)] [(0, 400), (0, v5)] kd m (zqV kd q)
  refine EvX.icmp_ge (off := 25) (tgt := 78) (by decide +kernel) (by decide) (fun hc => ?_) (fun hc => ?_)
  · have h := h.1 hc
    exact EvX.ret (r := zJ) (by decide +kernel) rfl ⟨rfl, rfl, h⟩
  · have h := h.2 hc
    obtain ⟨o1, o2, o3, o4, h⟩ := h
    refine EvX.blk (pc' := 75) [(.aload_n 0, 0, 0), (.getfield 28, 1, 5), (.iload 5, 0, 0), (.iconst 0, 0, 0), (.iastore, 0, 0), (.aload_n 0, 0, 0), (.getfield 31, 1, 6), (.iload 5, 0, 0), (.iconst 0, 0, 0), (.iastore, 0, 0), (.iinc 5 1, 0, 0)] (by decide +kernel) ⟨g_Game_28, g_Game_31, trivial⟩ ⟨o1, o2, o3, o4, ?_⟩
    show Ev (d + 1) M_Game_start 0 0 75 [(2, v0), zJ, zJ, zJ, zJ, (0, iw (v5 + 1))] [] kd (zup (zup m (m v0 5) v5 0) ((zup m (m v0 5) v5 0) v0 6) v5 0) (zqV kd q)
    refine EvX.goto (off := (-27)) (tgt := 48) (by decide +kernel) (by decide) ?_
    exact h
set_option maxRecDepth 20000 in
set_option maxHeartbeats 1000000 in
theorem T_Game_isTold_0 {d : Nat} {kd : ZK} {m : ZM} {q : Int → ZM → Prop} {v0 : Int} (h : (zobj kd v0 1 ∧ (((m v0 0) ≤ 0 → q 0 m) ∧ (¬ (m v0 0) ≤ 0 → q 1 m)))) : Ev (d + 1) M_Game_isTold 0 0 0 [(2, v0)] [] kd m (zqI kd q) := by
  obtain ⟨o1, h⟩ := h
  refine EvX.blk (pc' := 4) [(.aload_n 0, 0, 0), (.getfield 11, 1, 0)] (by decide +kernel) ⟨g_Game_11, trivial⟩ ⟨o1, ?_⟩
  show Ev (d + 1) M_Game_isTold 0 0 4 [(2, v0)] [(0, m v0 0)] kd m (zqI kd q)
  refine EvX.if_le (off := 7) (tgt := 11) (by decide +kernel) (by decide) (fun hc => ?_) (fun hc => ?_)
  · have h := h.1 hc
    refine EvX.blk (pc' := 12) [(.iconst 0, 0, 0)] (by decide +kernel) trivial ?_
    show Ev (d + 1) M_Game_isTold 0 0 12 [(2, v0)] [(0, 0)] kd m (zqI kd q)
    exact EvX.ret (r := (0, 0)) (by decide +kernel) ⟨rfl, by decide, by decide⟩ ⟨_, rfl, rfl, h⟩
  · have h := h.2 hc
    refine EvX.blk (pc' := 8) [(.iconst 1, 0, 0)] (by decide +kernel) trivial ?_
    show Ev (d + 1) M_Game_isTold 0 0 8 [(2, v0)] [(0, 1)] kd m (zqI kd q)
    refine EvX.goto (off := 4) (tgt := 12) (by decide +kernel) (by decide) ?_
    exact EvX.ret (r := (0, 1)) (by decide +kernel) ⟨rfl, by decide, by decide⟩ ⟨_, rfl, rfl, h⟩
theorem S_Game_isTold {d : Nat} {kd : ZK} {m : ZM} {q : Int → ZM → Prop} {v0 : Int} (h : (zobj kd v0 1 ∧ (((m v0 0) ≤ 0 → q 0 m) ∧ (¬ (m v0 0) ≤ 0 → q 1 m)))) : CtI (d + 1) M_Game_isTold [(2, v0)] kd m q :=
  Ct.start k_Game_isTold (Nat.le_of_ble_eq_true rfl) ⟨2, Or.inr (Or.inr (Or.inl ⟨rfl, rfl⟩))⟩ (T_Game_isTold_0 h)
set_option maxRecDepth 20000 in
set_option maxHeartbeats 1000000 in
theorem T_Game_questionsOf_0 {d : Nat} {kd : ZK} {m : ZM} {q : Int → ZM → Prop} {v0 v1 : Int} (h : ((v1 ≠ 0 → (zobj kd v0 1 ∧ q (m v0 1) m)) ∧ (¬ v1 ≠ 0 → (zobj kd v0 1 ∧ q (m v0 0) m)))) : Ev (d + 1) M_Game_questionsOf 0 0 0 [(2, v0), (0, v1)] [] kd m (zqI kd q) := by
  refine EvX.blk (pc' := 1) [(.iload_n 1, 0, 0)] (by decide +kernel) trivial ?_
  show Ev (d + 1) M_Game_questionsOf 0 0 1 [(2, v0), (0, v1)] [(0, v1)] kd m (zqI kd q)
  refine EvX.if_ne (off := 10) (tgt := 11) (by decide +kernel) (by decide) (fun hc => ?_) (fun hc => ?_)
  · have h := h.1 hc
    obtain ⟨o1, h⟩ := h
    refine EvX.blk (pc' := 15) [(.aload_n 0, 0, 0), (.getfield 15, 1, 1)] (by decide +kernel) ⟨g_Game_15, trivial⟩ ⟨o1, ?_⟩
    show Ev (d + 1) M_Game_questionsOf 0 0 15 [(2, v0), (0, v1)] [(0, m v0 1)] kd m (zqI kd q)
    exact EvX.ret (r := (0, m v0 1)) (by decide +kernel) rfl ⟨_, rfl, rfl, h⟩
  · have h := h.2 hc
    obtain ⟨o1, h⟩ := h
    refine EvX.blk (pc' := 8) [(.aload_n 0, 0, 0), (.getfield 11, 1, 0)] (by decide +kernel) ⟨g_Game_11, trivial⟩ ⟨o1, ?_⟩
    show Ev (d + 1) M_Game_questionsOf 0 0 8 [(2, v0), (0, v1)] [(0, m v0 0)] kd m (zqI kd q)
    refine EvX.goto (off := 7) (tgt := 15) (by decide +kernel) (by decide) ?_
    exact EvX.ret (r := (0, m v0 0)) (by decide +kernel) rfl ⟨_, rfl, rfl, h⟩
theorem S_Game_questionsOf {d : Nat} {kd : ZK} {m : ZM} {q : Int → ZM → Prop} {v0 v1 : Int} (h : ((v1 ≠ 0 → (zobj kd v0 1 ∧ q (m v0 1) m)) ∧ (¬ v1 ≠ 0 → (zobj kd v0 1 ∧ q (m v0 0) m)))) : CtI (d + 1) M_Game_questionsOf [(2, v0), (0, v1)] kd m q :=
  Ct.start k_Game_questionsOf (Nat.le_of_ble_eq_true rfl) ⟨1, Or.inr (Or.inl ⟨rfl, rfl⟩)⟩ (T_Game_questionsOf_0 h)
set_option maxRecDepth 20000 in
set_option maxHeartbeats 1000000 in
theorem T_Game_answersOf_0 {d : Nat} {kd : ZK} {m : ZM} {q : Int → ZM → Prop} {v0 v1 : Int} (h : ((v1 ≠ 0 → (zobj kd v0 1 ∧ q (m v0 3) m)) ∧ (¬ v1 ≠ 0 → (zobj kd v0 1 ∧ q (m v0 2) m)))) : Ev (d + 1) M_Game_answersOf 0 0 0 [(2, v0), (0, v1)] [] kd m (zqI kd q) := by
  refine EvX.blk (pc' := 1) [(.iload_n 1, 0, 0)] (by decide +kernel) trivial ?_
  show Ev (d + 1) M_Game_answersOf 0 0 1 [(2, v0), (0, v1)] [(0, v1)] kd m (zqI kd q)
  refine EvX.if_ne (off := 10) (tgt := 11) (by decide +kernel) (by decide) (fun hc => ?_) (fun hc => ?_)
  · have h := h.1 hc
    obtain ⟨o1, h⟩ := h
    refine EvX.blk (pc' := 15) [(.aload_n 0, 0, 0), (.getfield 21, 1, 3)] (by decide +kernel) ⟨g_Game_21, trivial⟩ ⟨o1, ?_⟩
    show Ev (d + 1) M_Game_answersOf 0 0 15 [(2, v0), (0, v1)] [(0, m v0 3)] kd m (zqI kd q)
    exact EvX.ret (r := (0, m v0 3)) (by decide +kernel) rfl ⟨_, rfl, rfl, h⟩
  · have h := h.2 hc
    obtain ⟨o1, h⟩ := h
    refine EvX.blk (pc' := 8) [(.aload_n 0, 0, 0), (.getfield 18, 1, 2)] (by decide +kernel) ⟨g_Game_18, trivial⟩ ⟨o1, ?_⟩
    show Ev (d + 1) M_Game_answersOf 0 0 8 [(2, v0), (0, v1)] [(0, m v0 2)] kd m (zqI kd q)
    refine EvX.goto (off := 7) (tgt := 15) (by decide +kernel) (by decide) ?_
    exact EvX.ret (r := (0, m v0 2)) (by decide +kernel) rfl ⟨_, rfl, rfl, h⟩
theorem S_Game_answersOf {d : Nat} {kd : ZK} {m : ZM} {q : Int → ZM → Prop} {v0 v1 : Int} (h : ((v1 ≠ 0 → (zobj kd v0 1 ∧ q (m v0 3) m)) ∧ (¬ v1 ≠ 0 → (zobj kd v0 1 ∧ q (m v0 2) m)))) : CtI (d + 1) M_Game_answersOf [(2, v0), (0, v1)] kd m q :=
  Ct.start k_Game_answersOf (Nat.le_of_ble_eq_true rfl) ⟨1, Or.inr (Or.inl ⟨rfl, rfl⟩)⟩ (T_Game_answersOf_0 h)
set_option maxRecDepth 20000 in
set_option maxHeartbeats 1000000 in
theorem T_Game_hasQuestion_0 {d : Nat} {kd : ZK} {m : ZM} {q : Int → ZM → Prop} {v0 v1 v2 : Int} (h : (∃ q1, CtI d M_Ap_isPlayer [(0, v1)] kd m q1 ∧ ∀ x2 m3, q1 x2 m3 → ((x2 = 0 → q 0 m3) ∧ (¬ x2 = 0 → ((v2 < 0 → q 0 m3) ∧ (¬ v2 < 0 → (zobj kd v0 1 ∧ ∃ q4, CtI d M_Game_questionsOf [(2, v0), (0, v1)] kd m3 q4 ∧ ∀ x5 m6, q4 x5 m6 → ((x5 ≤ v2 → q 0 m6) ∧ (¬ x5 ≤ v2 → q 1 m6))))))))) : Ev (d + 1) M_Game_hasQuestion 0 0 0 [(2, v0), (0, v1), (0, v2)] [] kd m (zqI kd q) := by
  refine EvX.blk (pc' := 1) [(.iload_n 1, 0, 0)] (by decide +kernel) trivial ?_
  show Ev (d + 1) M_Game_hasQuestion 0 0 1 [(2, v0), (0, v1), (0, v2)] [(0, v1)] kd m (zqI kd q)
  obtain ⟨q1, hq, h⟩ := h
  refine EvX.callS (mc := 0) (ms := 0) (as := [(0, v1)]) (st := []) (by decide +kernel) l_Game_52 k_Ap_isPlayer s_Ap_isPlayer a_Ap_isPlayer (by decide) (Nat.le_of_ble_eq_true rfl) hq (fun r kd1 m3 hr => ?_)
  obtain ⟨x2, rfl, hk, hr⟩ := hr
  subst kd1
  have h := h x2 m3 hr
  show Ev (d + 1) M_Game_hasQuestion 0 0 4 [(2, v0), (0, v1), (0, v2)] [(0, x2)] kd m3 (zqI kd q)
  refine EvX.if_eq (off := 20) (tgt := 24) (by decide +kernel) (by decide) (fun hc => ?_) (fun hc => ?_)
  · have h := h.1 hc
    refine EvX.blk (pc' := 25) [(.iconst 0, 0, 0)] (by decide +kernel) trivial ?_
    show Ev (d + 1) M_Game_hasQuestion 0 0 25 [(2, v0), (0, v1), (0, v2)] [(0, 0)] kd m3 (zqI kd q)
    exact EvX.ret (r := (0, 0)) (by decide +kernel) ⟨rfl, by decide, by decide⟩ ⟨_, rfl, rfl, h⟩
  · have h := h.2 hc
    refine EvX.blk (pc' := 8) [(.iload_n 2, 0, 0)] (by decide +kernel) trivial ?_
    show Ev (d + 1) M_Game_hasQuestion 0 0 8 [(2, v0), (0, v1), (0, v2)] [(0, v2)] kd m3 (zqI kd q)
    refine EvX.if_lt (off := 16) (tgt := 24) (by decide +kernel) (by decide) (fun hc => ?_) (fun hc => ?_)
    · have h := h.1 hc
      refine EvX.blk (pc' := 25) [(.iconst 0, 0, 0)] (by decide +kernel) trivial ?_
      show Ev (d + 1) M_Game_hasQuestion 0 0 25 [(2, v0), (0, v1), (0, v2)] [(0, 0)] kd m3 (zqI kd q)
      exact EvX.ret (r := (0, 0)) (by decide +kernel) ⟨rfl, by decide, by decide⟩ ⟨_, rfl, rfl, h⟩
    · have h := h.2 hc
      refine EvX.blk (pc' := 14) [(.iload_n 2, 0, 0), (.aload_n 0, 0, 0), (.iload_n 1, 0, 0)] (by decide +kernel) trivial ?_
      show Ev (d + 1) M_Game_hasQuestion 0 0 14 [(2, v0), (0, v1), (0, v2)] [(0, v1), (2, v0), (0, v2)] kd m3 (zqI kd q)
      obtain ⟨ov, h⟩ := h
      obtain ⟨q4, hq, h⟩ := h
      refine EvX.callV (c := 1) (mc := 0) (ms := 0) (as := [(0, v1)]) (st := [(0, v2)]) (by decide +kernel) l_Game_56 k_Game_questionsOf v_Game_questionsOf a_Game_questionsOf (by decide) (Nat.le_of_ble_eq_true rfl) rfl ov hq (fun r kd1 m6 hr => ?_)
      obtain ⟨x5, rfl, hk, hr⟩ := hr
      subst kd1
      have h := h x5 m6 hr
      show Ev (d + 1) M_Game_hasQuestion 0 0 17 [(2, v0), (0, v1), (0, v2)] [(0, x5), (0, v2)] kd m6 (zqI kd q)
      refine EvX.icmp_ge (off := 7) (tgt := 24) (by decide +kernel) (by decide) (fun hc => ?_) (fun hc => ?_)
      · have h := h.1 hc
        refine EvX.blk (pc' := 25) [(.iconst 0, 0, 0)] (by decide +kernel) trivial ?_
        show Ev (d + 1) M_Game_hasQuestion 0 0 25 [(2, v0), (0, v1), (0, v2)] [(0, 0)] kd m6 (zqI kd q)
        exact EvX.ret (r := (0, 0)) (by decide +kernel) ⟨rfl, by decide, by decide⟩ ⟨_, rfl, rfl, h⟩
      · have h := h.2 hc
        refine EvX.blk (pc' := 21) [(.iconst 1, 0, 0)] (by decide +kernel) trivial ?_
        show Ev (d + 1) M_Game_hasQuestion 0 0 21 [(2, v0), (0, v1), (0, v2)] [(0, 1)] kd m6 (zqI kd q)
        refine EvX.goto (off := 4) (tgt := 25) (by decide +kernel) (by decide) ?_
        exact EvX.ret (r := (0, 1)) (by decide +kernel) ⟨rfl, by decide, by decide⟩ ⟨_, rfl, rfl, h⟩
theorem S_Game_hasQuestion {d : Nat} {kd : ZK} {m : ZM} {q : Int → ZM → Prop} {v0 v1 v2 : Int} (h : (∃ q1, CtI d M_Ap_isPlayer [(0, v1)] kd m q1 ∧ ∀ x2 m3, q1 x2 m3 → ((x2 = 0 → q 0 m3) ∧ (¬ x2 = 0 → ((v2 < 0 → q 0 m3) ∧ (¬ v2 < 0 → (zobj kd v0 1 ∧ ∃ q4, CtI d M_Game_questionsOf [(2, v0), (0, v1)] kd m3 q4 ∧ ∀ x5 m6, q4 x5 m6 → ((x5 ≤ v2 → q 0 m6) ∧ (¬ x5 ≤ v2 → q 1 m6))))))))) : CtI (d + 1) M_Game_hasQuestion [(2, v0), (0, v1), (0, v2)] kd m q :=
  Ct.start k_Game_hasQuestion (Nat.le_of_ble_eq_true rfl) ⟨2, Or.inr (Or.inr (Or.inl ⟨rfl, rfl⟩))⟩ (T_Game_hasQuestion_0 h)
set_option maxRecDepth 20000 in
set_option maxHeartbeats 1000000 in
theorem T_Game_hasAnswer_0 {d : Nat} {kd : ZK} {m : ZM} {q : Int → ZM → Prop} {v0 v1 v2 : Int} (h : (∃ q1, CtI d M_Ap_isPlayer [(0, v1)] kd m q1 ∧ ∀ x2 m3, q1 x2 m3 → ((x2 = 0 → q 0 m3) ∧ (¬ x2 = 0 → ((v2 < 0 → q 0 m3) ∧ (¬ v2 < 0 → (zobj kd v0 1 ∧ ∃ q4, CtI d M_Game_answersOf [(2, v0), (0, v1)] kd m3 q4 ∧ ∀ x5 m6, q4 x5 m6 → ((x5 ≤ v2 → q 0 m6) ∧ (¬ x5 ≤ v2 → q 1 m6))))))))) : Ev (d + 1) M_Game_hasAnswer 0 0 0 [(2, v0), (0, v1), (0, v2)] [] kd m (zqI kd q) := by
  refine EvX.blk (pc' := 1) [(.iload_n 1, 0, 0)] (by decide +kernel) trivial ?_
  show Ev (d + 1) M_Game_hasAnswer 0 0 1 [(2, v0), (0, v1), (0, v2)] [(0, v1)] kd m (zqI kd q)
  obtain ⟨q1, hq, h⟩ := h
  refine EvX.callS (mc := 0) (ms := 0) (as := [(0, v1)]) (st := []) (by decide +kernel) l_Game_52 k_Ap_isPlayer s_Ap_isPlayer a_Ap_isPlayer (by decide) (Nat.le_of_ble_eq_true rfl) hq (fun r kd1 m3 hr => ?_)
  obtain ⟨x2, rfl, hk, hr⟩ := hr
  subst kd1
  have h := h x2 m3 hr
  show Ev (d + 1) M_Game_hasAnswer 0 0 4 [(2, v0), (0, v1), (0, v2)] [(0, x2)] kd m3 (zqI kd q)
  refine EvX.if_eq (off := 20) (tgt := 24) (by decide +kernel) (by decide) (fun hc => ?_) (fun hc => ?_)
  · have h := h.1 hc
    refine EvX.blk (pc' := 25) [(.iconst 0, 0, 0)] (by decide +kernel) trivial ?_
    show Ev (d + 1) M_Game_hasAnswer 0 0 25 [(2, v0), (0, v1), (0, v2)] [(0, 0)] kd m3 (zqI kd q)
    exact EvX.ret (r := (0, 0)) (by decide +kernel) ⟨rfl, by decide, by decide⟩ ⟨_, rfl, rfl, h⟩
  · have h := h.2 hc
    refine EvX.blk (pc' := 8) [(.iload_n 2, 0, 0)] (by decide +kernel) trivial ?_
    show Ev (d + 1) M_Game_hasAnswer 0 0 8 [(2, v0), (0, v1), (0, v2)] [(0, v2)] kd m3 (zqI kd q)
    refine EvX.if_lt (off := 16) (tgt := 24) (by decide +kernel) (by decide) (fun hc => ?_) (fun hc => ?_)
    · have h := h.1 hc
      refine EvX.blk (pc' := 25) [(.iconst 0, 0, 0)] (by decide +kernel) trivial ?_
      show Ev (d + 1) M_Game_hasAnswer 0 0 25 [(2, v0), (0, v1), (0, v2)] [(0, 0)] kd m3 (zqI kd q)
      exact EvX.ret (r := (0, 0)) (by decide +kernel) ⟨rfl, by decide, by decide⟩ ⟨_, rfl, rfl, h⟩
    · have h := h.2 hc
      refine EvX.blk (pc' := 14) [(.iload_n 2, 0, 0), (.aload_n 0, 0, 0), (.iload_n 1, 0, 0)] (by decide +kernel) trivial ?_
      show Ev (d + 1) M_Game_hasAnswer 0 0 14 [(2, v0), (0, v1), (0, v2)] [(0, v1), (2, v0), (0, v2)] kd m3 (zqI kd q)
      obtain ⟨ov, h⟩ := h
      obtain ⟨q4, hq, h⟩ := h
      refine EvX.callV (c := 1) (mc := 0) (ms := 0) (as := [(0, v1)]) (st := [(0, v2)]) (by decide +kernel) l_Game_60 k_Game_answersOf v_Game_answersOf a_Game_answersOf (by decide) (Nat.le_of_ble_eq_true rfl) rfl ov hq (fun r kd1 m6 hr => ?_)
      obtain ⟨x5, rfl, hk, hr⟩ := hr
      subst kd1
      have h := h x5 m6 hr
      show Ev (d + 1) M_Game_hasAnswer 0 0 17 [(2, v0), (0, v1), (0, v2)] [(0, x5), (0, v2)] kd m6 (zqI kd q)
      refine EvX.icmp_ge (off := 7) (tgt := 24) (by decide +kernel) (by decide) (fun hc => ?_) (fun hc => ?_)
      · have h := h.1 hc
        refine EvX.blk (pc' := 25) [(.iconst 0, 0, 0)] (by decide +kernel) trivial ?_
        show Ev (d + 1) M_Game_hasAnswer 0 0 25 [(2, v0), (0, v1), (0, v2)] [(0, 0)] kd m6 (zqI kd q)
        exact EvX.ret (r := (0, 0)) (by decide +kernel) ⟨rfl, by decide, by decide⟩ ⟨_, rfl, rfl, h⟩
      · have h := h.2 hc
        refine EvX.blk (pc' := 21) [(.iconst 1, 0, 0)] (by decide +kernel) trivial ?_
        show Ev (d + 1) M_Game_hasAnswer 0 0 21 [(2, v0), (0, v1), (0, v2)] [(0, 1)] kd m6 (zqI kd q)
        refine EvX.goto (off := 4) (tgt := 25) (by decide +kernel) (by decide) ?_
        exact EvX.ret (r := (0, 1)) (by decide +kernel) ⟨rfl, by decide, by decide⟩ ⟨_, rfl, rfl, h⟩
theorem S_Game_hasAnswer {d : Nat} {kd : ZK} {m : ZM} {q : Int → ZM → Prop} {v0 v1 v2 : Int} (h : (∃ q1, CtI d M_Ap_isPlayer [(0, v1)] kd m q1 ∧ ∀ x2 m3, q1 x2 m3 → ((x2 = 0 → q 0 m3) ∧ (¬ x2 = 0 → ((v2 < 0 → q 0 m3) ∧ (¬ v2 < 0 → (zobj kd v0 1 ∧ ∃ q4, CtI d M_Game_answersOf [(2, v0), (0, v1)] kd m3 q4 ∧ ∀ x5 m6, q4 x5 m6 → ((x5 ≤ v2 → q 0 m6) ∧ (¬ x5 ≤ v2 → q 1 m6))))))))) : CtI (d + 1) M_Game_hasAnswer [(2, v0), (0, v1), (0, v2)] kd m q :=
  Ct.start k_Game_hasAnswer (Nat.le_of_ble_eq_true rfl) ⟨2, Or.inr (Or.inr (Or.inl ⟨rfl, rfl⟩))⟩ (T_Game_hasAnswer_0 h)
set_option maxRecDepth 20000 in
set_option maxHeartbeats 1000000 in
theorem T_Game_hasTwoAnswers_0 {d : Nat} {kd : ZK} {m : ZM} {q : Int → ZM → Prop} {v0 v1 v2 v3 v4 : Int} (h : (zobj kd v0 1 ∧ ∃ q1, CtI d M_Game_hasQuestion [(2, v0), (0, v1), (0, v2)] kd m q1 ∧ ∀ x2 m3, q1 x2 m3 → ((x2 = 0 → q 0 m3) ∧ (¬ x2 = 0 → (zobj kd v0 1 ∧ ∃ q4, CtI d M_Game_hasAnswer [(2, v0), (0, v1), (0, v3)] kd m3 q4 ∧ ∀ x5 m6, q4 x5 m6 → ((x5 = 0 → q 0 m6) ∧ (¬ x5 = 0 → (zobj kd v0 1 ∧ ∃ q7, CtI d M_Game_hasAnswer [(2, v0), (0, v1), (0, v4)] kd m6 q7 ∧ ∀ x8 m9, q7 x8 m9 → ((x8 = 0 → q 0 m9) ∧ (¬ x8 = 0 → ((v3 = v4 → q 0 m9) ∧ (¬ v3 = v4 → q 1 m9)))))))))))) : Ev (d + 1) M_Game_hasTwoAnswers 0 0 0 [(2, v0), (0, v1), (0, v2), (0, v3), (0, v4)] [] kd m (zqI kd q) := by
  refine EvX.blk (pc' := 3) [(.aload_n 0, 0, 0), (.iload_n 1, 0, 0), (.iload_n 2, 0, 0)] (by decide +kernel) trivial ?_
  show Ev (d + 1) M_Game_hasTwoAnswers 0 0 3 [(2, v0), (0, v1), (0, v2), (0, v3), (0, v4)] [(0, v2), (0, v1), (2, v0)] kd m (zqI kd q)
  obtain ⟨ov, h⟩ := h
  obtain ⟨q1, hq, h⟩ := h
  refine EvX.callV (c := 1) (mc := 0) (ms := 0) (as := [(0, v1), (0, v2)]) (st := []) (by decide +kernel) l_Game_63 k_Game_hasQuestion v_Game_hasQuestion a_Game_hasQuestion (by decide) (Nat.le_of_ble_eq_true rfl) rfl ov hq (fun r kd1 m3 hr => ?_)
  obtain ⟨x2, rfl, hk, hr⟩ := hr
  subst kd1
  have h := h x2 m3 hr
  show Ev (d + 1) M_Game_hasTwoAnswers 0 0 6 [(2, v0), (0, v1), (0, v2), (0, v3), (0, v4)] [(0, x2)] kd m3 (zqI kd q)
  refine EvX.if_eq (off := 32) (tgt := 38) (by decide +kernel) (by decide) (fun hc => ?_) (fun hc => ?_)
  · have h := h.1 hc
    refine EvX.blk (pc' := 39) [(.iconst 0, 0, 0)] (by decide +kernel) trivial ?_
    show Ev (d + 1) M_Game_hasTwoAnswers 0 0 39 [(2, v0), (0, v1), (0, v2), (0, v3), (0, v4)] [(0, 0)] kd m3 (zqI kd q)
    exact EvX.ret (r := (0, 0)) (by decide +kernel) ⟨rfl, by decide, by decide⟩ ⟨_, rfl, rfl, h⟩
  · have h := h.2 hc
    refine EvX.blk (pc' := 12) [(.aload_n 0, 0, 0), (.iload_n 1, 0, 0), (.iload_n 3, 0, 0)] (by decide +kernel) trivial ?_
    show Ev (d + 1) M_Game_hasTwoAnswers 0 0 12 [(2, v0), (0, v1), (0, v2), (0, v3), (0, v4)] [(0, v3), (0, v1), (2, v0)] kd m3 (zqI kd q)
    obtain ⟨ov, h⟩ := h
    obtain ⟨q4, hq, h⟩ := h
    refine EvX.callV (c := 1) (mc := 0) (ms := 0) (as := [(0, v1), (0, v3)]) (st := []) (by decide +kernel) l_Game_67 k_Game_hasAnswer v_Game_hasAnswer a_Game_hasAnswer (by decide) (Nat.le_of_ble_eq_true rfl) rfl ov hq (fun r kd1 m6 hr => ?_)
    obtain ⟨x5, rfl, hk, hr⟩ := hr
    subst kd1
    have h := h x5 m6 hr
    show Ev (d + 1) M_Game_hasTwoAnswers 0 0 15 [(2, v0), (0, v1), (0, v2), (0, v3), (0, v4)] [(0, x5)] kd m6 (zqI kd q)
    refine EvX.if_eq (off := 23) (tgt := 38) (by decide +kernel) (by decide) (fun hc => ?_) (fun hc => ?_)
    · have h := h.1 hc
      refine EvX.blk (pc' := 39) [(.iconst 0, 0, 0)] (by decide +kernel) trivial ?_
      show Ev (d + 1) M_Game_hasTwoAnswers 0 0 39 [(2, v0), (0, v1), (0, v2), (0, v3), (0, v4)] [(0, 0)] kd m6 (zqI kd q)
      exact EvX.ret (r := (0, 0)) (by decide +kernel) ⟨rfl, by decide, by decide⟩ ⟨_, rfl, rfl, h⟩
    · have h := h.2 hc
      refine EvX.blk (pc' := 22) [(.aload_n 0, 0, 0), (.iload_n 1, 0, 0), (.iload 4, 0, 0)] (by decide +kernel) trivial ?_
      show Ev (d + 1) M_Game_hasTwoAnswers 0 0 22 [(2, v0), (0, v1), (0, v2), (0, v3), (0, v4)] [(0, v4), (0, v1), (2, v0)] kd m6 (zqI kd q)
      obtain ⟨ov, h⟩ := h
      obtain ⟨q7, hq, h⟩ := h
      refine EvX.callV (c := 1) (mc := 0) (ms := 0) (as := [(0, v1), (0, v4)]) (st := []) (by decide +kernel) l_Game_67 k_Game_hasAnswer v_Game_hasAnswer a_Game_hasAnswer (by decide) (Nat.le_of_ble_eq_true rfl) rfl ov hq (fun r kd1 m9 hr => ?_)
      obtain ⟨x8, rfl, hk, hr⟩ := hr
      subst kd1
      have h := h x8 m9 hr
      show Ev (d + 1) M_Game_hasTwoAnswers 0 0 25 [(2, v0), (0, v1), (0, v2), (0, v3), (0, v4)] [(0, x8)] kd m9 (zqI kd q)
      refine EvX.if_eq (off := 13) (tgt := 38) (by decide +kernel) (by decide) (fun hc => ?_) (fun hc => ?_)
      · have h := h.1 hc
        refine EvX.blk (pc' := 39) [(.iconst 0, 0, 0)] (by decide +kernel) trivial ?_
        show Ev (d + 1) M_Game_hasTwoAnswers 0 0 39 [(2, v0), (0, v1), (0, v2), (0, v3), (0, v4)] [(0, 0)] kd m9 (zqI kd q)
        exact EvX.ret (r := (0, 0)) (by decide +kernel) ⟨rfl, by decide, by decide⟩ ⟨_, rfl, rfl, h⟩
      · have h := h.2 hc
        refine EvX.blk (pc' := 31) [(.iload_n 3, 0, 0), (.iload 4, 0, 0)] (by decide +kernel) trivial ?_
        show Ev (d + 1) M_Game_hasTwoAnswers 0 0 31 [(2, v0), (0, v1), (0, v2), (0, v3), (0, v4)] [(0, v4), (0, v3)] kd m9 (zqI kd q)
        refine EvX.icmp_eq (off := 7) (tgt := 38) (by decide +kernel) (by decide) (fun hc => ?_) (fun hc => ?_)
        · have h := h.1 hc
          refine EvX.blk (pc' := 39) [(.iconst 0, 0, 0)] (by decide +kernel) trivial ?_
          show Ev (d + 1) M_Game_hasTwoAnswers 0 0 39 [(2, v0), (0, v1), (0, v2), (0, v3), (0, v4)] [(0, 0)] kd m9 (zqI kd q)
          exact EvX.ret (r := (0, 0)) (by decide +kernel) ⟨rfl, by decide, by decide⟩ ⟨_, rfl, rfl, h⟩
        · have h := h.2 hc
          refine EvX.blk (pc' := 35) [(.iconst 1, 0, 0)] (by decide +kernel) trivial ?_
          show Ev (d + 1) M_Game_hasTwoAnswers 0 0 35 [(2, v0), (0, v1), (0, v2), (0, v3), (0, v4)] [(0, 1)] kd m9 (zqI kd q)
          refine EvX.goto (off := 4) (tgt := 39) (by decide +kernel) (by decide) ?_
          exact EvX.ret (r := (0, 1)) (by decide +kernel) ⟨rfl, by decide, by decide⟩ ⟨_, rfl, rfl, h⟩
theorem S_Game_hasTwoAnswers {d : Nat} {kd : ZK} {m : ZM} {q : Int → ZM → Prop} {v0 v1 v2 v3 v4 : Int} (h : (zobj kd v0 1 ∧ ∃ q1, CtI d M_Game_hasQuestion [(2, v0), (0, v1), (0, v2)] kd m q1 ∧ ∀ x2 m3, q1 x2 m3 → ((x2 = 0 → q 0 m3) ∧ (¬ x2 = 0 → (zobj kd v0 1 ∧ ∃ q4, CtI d M_Game_hasAnswer [(2, v0), (0, v1), (0, v3)] kd m3 q4 ∧ ∀ x5 m6, q4 x5 m6 → ((x5 = 0 → q 0 m6) ∧ (¬ x5 = 0 → (zobj kd v0 1 ∧ ∃ q7, CtI d M_Game_hasAnswer [(2, v0), (0, v1), (0, v4)] kd m6 q7 ∧ ∀ x8 m9, q7 x8 m9 → ((x8 = 0 → q 0 m9) ∧ (¬ x8 = 0 → ((v3 = v4 → q 0 m9) ∧ (¬ v3 = v4 → q 1 m9)))))))))))) : CtI (d + 1) M_Game_hasTwoAnswers [(2, v0), (0, v1), (0, v2), (0, v3), (0, v4)] kd m q :=
  Ct.start k_Game_hasTwoAnswers (Nat.le_of_ble_eq_true rfl) ⟨2, Or.inr (Or.inr (Or.inl ⟨rfl, rfl⟩))⟩ (T_Game_hasTwoAnswers_0 h)
set_option maxRecDepth 20000 in
set_option maxHeartbeats 1000000 in
theorem T_Game_hasCell_0 {d : Nat} {kd : ZK} {m : ZM} {q : Int → ZM → Prop} {v0 v1 v2 : Int} (h : (zobj kd v0 1 ∧ ∃ q1, CtI d M_Game_hasQuestion [(2, v0), (0, 0), (0, v1)] kd m q1 ∧ ∀ x2 m3, q1 x2 m3 → ((x2 = 0 → q 0 m3) ∧ (¬ x2 = 0 → (zobj kd v0 1 ∧ ∃ q4, CtI d M_Game_hasQuestion [(2, v0), (0, 1), (0, v2)] kd m3 q4 ∧ ∀ x5 m6, q4 x5 m6 → ((x5 = 0 → q 0 m6) ∧ (¬ x5 = 0 → q 1 m6))))))) : Ev (d + 1) M_Game_hasCell 0 0 0 [(2, v0), (0, v1), (0, v2)] [] kd m (zqI kd q) := by
  refine EvX.blk (pc' := 3) [(.aload_n 0, 0, 0), (.iconst 0, 0, 0), (.iload_n 1, 0, 0)] (by decide +kernel) trivial ?_
  show Ev (d + 1) M_Game_hasCell 0 0 3 [(2, v0), (0, v1), (0, v2)] [(0, v1), (0, 0), (2, v0)] kd m (zqI kd q)
  obtain ⟨ov, h⟩ := h
  obtain ⟨q1, hq, h⟩ := h
  refine EvX.callV (c := 1) (mc := 0) (ms := 0) (as := [(0, 0), (0, v1)]) (st := []) (by decide +kernel) l_Game_63 k_Game_hasQuestion v_Game_hasQuestion a_Game_hasQuestion (by decide) (Nat.le_of_ble_eq_true rfl) rfl ov hq (fun r kd1 m3 hr => ?_)
  obtain ⟨x2, rfl, hk, hr⟩ := hr
  subst kd1
  have h := h x2 m3 hr
  show Ev (d + 1) M_Game_hasCell 0 0 6 [(2, v0), (0, v1), (0, v2)] [(0, x2)] kd m3 (zqI kd q)
  refine EvX.if_eq (off := 16) (tgt := 22) (by decide +kernel) (by decide) (fun hc => ?_) (fun hc => ?_)
  · have h := h.1 hc
    refine EvX.blk (pc' := 23) [(.iconst 0, 0, 0)] (by decide +kernel) trivial ?_
    show Ev (d + 1) M_Game_hasCell 0 0 23 [(2, v0), (0, v1), (0, v2)] [(0, 0)] kd m3 (zqI kd q)
    exact EvX.ret (r := (0, 0)) (by decide +kernel) ⟨rfl, by decide, by decide⟩ ⟨_, rfl, rfl, h⟩
  · have h := h.2 hc
    refine EvX.blk (pc' := 12) [(.aload_n 0, 0, 0), (.iconst 1, 0, 0), (.iload_n 2, 0, 0)] (by decide +kernel) trivial ?_
    show Ev (d + 1) M_Game_hasCell 0 0 12 [(2, v0), (0, v1), (0, v2)] [(0, v2), (0, 1), (2, v0)] kd m3 (zqI kd q)
    obtain ⟨ov, h⟩ := h
    obtain ⟨q4, hq, h⟩ := h
    refine EvX.callV (c := 1) (mc := 0) (ms := 0) (as := [(0, 1), (0, v2)]) (st := []) (by decide +kernel) l_Game_63 k_Game_hasQuestion v_Game_hasQuestion a_Game_hasQuestion (by decide) (Nat.le_of_ble_eq_true rfl) rfl ov hq (fun r kd1 m6 hr => ?_)
    obtain ⟨x5, rfl, hk, hr⟩ := hr
    subst kd1
    have h := h x5 m6 hr
    show Ev (d + 1) M_Game_hasCell 0 0 15 [(2, v0), (0, v1), (0, v2)] [(0, x5)] kd m6 (zqI kd q)
    refine EvX.if_eq (off := 7) (tgt := 22) (by decide +kernel) (by decide) (fun hc => ?_) (fun hc => ?_)
    · have h := h.1 hc
      refine EvX.blk (pc' := 23) [(.iconst 0, 0, 0)] (by decide +kernel) trivial ?_
      show Ev (d + 1) M_Game_hasCell 0 0 23 [(2, v0), (0, v1), (0, v2)] [(0, 0)] kd m6 (zqI kd q)
      exact EvX.ret (r := (0, 0)) (by decide +kernel) ⟨rfl, by decide, by decide⟩ ⟨_, rfl, rfl, h⟩
    · have h := h.2 hc
      refine EvX.blk (pc' := 19) [(.iconst 1, 0, 0)] (by decide +kernel) trivial ?_
      show Ev (d + 1) M_Game_hasCell 0 0 19 [(2, v0), (0, v1), (0, v2)] [(0, 1)] kd m6 (zqI kd q)
      refine EvX.goto (off := 4) (tgt := 23) (by decide +kernel) (by decide) ?_
      exact EvX.ret (r := (0, 1)) (by decide +kernel) ⟨rfl, by decide, by decide⟩ ⟨_, rfl, rfl, h⟩
theorem S_Game_hasCell {d : Nat} {kd : ZK} {m : ZM} {q : Int → ZM → Prop} {v0 v1 v2 : Int} (h : (zobj kd v0 1 ∧ ∃ q1, CtI d M_Game_hasQuestion [(2, v0), (0, 0), (0, v1)] kd m q1 ∧ ∀ x2 m3, q1 x2 m3 → ((x2 = 0 → q 0 m3) ∧ (¬ x2 = 0 → (zobj kd v0 1 ∧ ∃ q4, CtI d M_Game_hasQuestion [(2, v0), (0, 1), (0, v2)] kd m3 q4 ∧ ∀ x5 m6, q4 x5 m6 → ((x5 = 0 → q 0 m6) ∧ (¬ x5 = 0 → q 1 m6))))))) : CtI (d + 1) M_Game_hasCell [(2, v0), (0, v1), (0, v2)] kd m q :=
  Ct.start k_Game_hasCell (Nat.le_of_ble_eq_true rfl) ⟨2, Or.inr (Or.inr (Or.inl ⟨rfl, rfl⟩))⟩ (T_Game_hasCell_0 h)
set_option maxRecDepth 20000 in
set_option maxHeartbeats 1000000 in
theorem T_Game_hasSpot_0 {d : Nat} {kd : ZK} {m : ZM} {q : Int → ZM → Prop} {v0 v1 v2 v3 v4 : Int} (h : (zobj kd v0 1 ∧ ∃ q1, CtI d M_Game_hasCell [(2, v0), (0, v1), (0, v2)] kd m q1 ∧ ∀ x2 m3, q1 x2 m3 → ((x2 = 0 → q 0 m3) ∧ (¬ x2 = 0 → (zobj kd v0 1 ∧ ∃ q4, CtI d M_Game_hasAnswer [(2, v0), (0, 0), (0, v3)] kd m3 q4 ∧ ∀ x5 m6, q4 x5 m6 → ((x5 = 0 → q 0 m6) ∧ (¬ x5 = 0 → (zobj kd v0 1 ∧ ∃ q7, CtI d M_Game_hasAnswer [(2, v0), (0, 1), (0, v4)] kd m6 q7 ∧ ∀ x8 m9, q7 x8 m9 → ((x8 = 0 → q 0 m9) ∧ (¬ x8 = 0 → q 1 m9)))))))))) : Ev (d + 1) M_Game_hasSpot 0 0 0 [(2, v0), (0, v1), (0, v2), (0, v3), (0, v4)] [] kd m (zqI kd q) := by
  refine EvX.blk (pc' := 3) [(.aload_n 0, 0, 0), (.iload_n 1, 0, 0), (.iload_n 2, 0, 0)] (by decide +kernel) trivial ?_
  show Ev (d + 1) M_Game_hasSpot 0 0 3 [(2, v0), (0, v1), (0, v2), (0, v3), (0, v4)] [(0, v2), (0, v1), (2, v0)] kd m (zqI kd q)
  obtain ⟨ov, h⟩ := h
  obtain ⟨q1, hq, h⟩ := h
  refine EvX.callV (c := 1) (mc := 0) (ms := 0) (as := [(0, v1), (0, v2)]) (st := []) (by decide +kernel) l_Game_70 k_Game_hasCell v_Game_hasCell a_Game_hasCell (by decide) (Nat.le_of_ble_eq_true rfl) rfl ov hq (fun r kd1 m3 hr => ?_)
  obtain ⟨x2, rfl, hk, hr⟩ := hr
  subst kd1
  have h := h x2 m3 hr
  show Ev (d + 1) M_Game_hasSpot 0 0 6 [(2, v0), (0, v1), (0, v2), (0, v3), (0, v4)] [(0, x2)] kd m3 (zqI kd q)
  refine EvX.if_eq (off := 26) (tgt := 32) (by decide +kernel) (by decide) (fun hc => ?_) (fun hc => ?_)
  · have h := h.1 hc
    refine EvX.blk (pc' := 33) [(.iconst 0, 0, 0)] (by decide +kernel) trivial ?_
    show Ev (d + 1) M_Game_hasSpot 0 0 33 [(2, v0), (0, v1), (0, v2), (0, v3), (0, v4)] [(0, 0)] kd m3 (zqI kd q)
    exact EvX.ret (r := (0, 0)) (by decide +kernel) ⟨rfl, by decide, by decide⟩ ⟨_, rfl, rfl, h⟩
  · have h := h.2 hc
    refine EvX.blk (pc' := 12) [(.aload_n 0, 0, 0), (.iconst 0, 0, 0), (.iload_n 3, 0, 0)] (by decide +kernel) trivial ?_
    show Ev (d + 1) M_Game_hasSpot 0 0 12 [(2, v0), (0, v1), (0, v2), (0, v3), (0, v4)] [(0, v3), (0, 0), (2, v0)] kd m3 (zqI kd q)
    obtain ⟨ov, h⟩ := h
    obtain ⟨q4, hq, h⟩ := h
    refine EvX.callV (c := 1) (mc := 0) (ms := 0) (as := [(0, 0), (0, v3)]) (st := []) (by decide +kernel) l_Game_67 k_Game_hasAnswer v_Game_hasAnswer a_Game_hasAnswer (by decide) (Nat.le_of_ble_eq_true rfl) rfl ov hq (fun r kd1 m6 hr => ?_)
    obtain ⟨x5, rfl, hk, hr⟩ := hr
    subst kd1
    have h := h x5 m6 hr
    show Ev (d + 1) M_Game_hasSpot 0 0 15 [(2, v0), (0, v1), (0, v2), (0, v3), (0, v4)] [(0, x5)] kd m6 (zqI kd q)
    refine EvX.if_eq (off := 17) (tgt := 32) (by decide +kernel) (by decide) (fun hc => ?_) (fun hc => ?_)
    · have h := h.1 hc
      refine EvX.blk (pc' := 33) [(.iconst 0, 0, 0)] (by decide +kernel) trivial ?_
      show Ev (d + 1) M_Game_hasSpot 0 0 33 [(2, v0), (0, v1), (0, v2), (0, v3), (0, v4)] [(0, 0)] kd m6 (zqI kd q)
      exact EvX.ret (r := (0, 0)) (by decide +kernel) ⟨rfl, by decide, by decide⟩ ⟨_, rfl, rfl, h⟩
    · have h := h.2 hc
      refine EvX.blk (pc' := 22) [(.aload_n 0, 0, 0), (.iconst 1, 0, 0), (.iload 4, 0, 0)] (by decide +kernel) trivial ?_
      show Ev (d + 1) M_Game_hasSpot 0 0 22 [(2, v0), (0, v1), (0, v2), (0, v3), (0, v4)] [(0, v4), (0, 1), (2, v0)] kd m6 (zqI kd q)
      obtain ⟨ov, h⟩ := h
      obtain ⟨q7, hq, h⟩ := h
      refine EvX.callV (c := 1) (mc := 0) (ms := 0) (as := [(0, 1), (0, v4)]) (st := []) (by decide +kernel) l_Game_67 k_Game_hasAnswer v_Game_hasAnswer a_Game_hasAnswer (by decide) (Nat.le_of_ble_eq_true rfl) rfl ov hq (fun r kd1 m9 hr => ?_)
      obtain ⟨x8, rfl, hk, hr⟩ := hr
      subst kd1
      have h := h x8 m9 hr
      show Ev (d + 1) M_Game_hasSpot 0 0 25 [(2, v0), (0, v1), (0, v2), (0, v3), (0, v4)] [(0, x8)] kd m9 (zqI kd q)
      refine EvX.if_eq (off := 7) (tgt := 32) (by decide +kernel) (by decide) (fun hc => ?_) (fun hc => ?_)
      · have h := h.1 hc
        refine EvX.blk (pc' := 33) [(.iconst 0, 0, 0)] (by decide +kernel) trivial ?_
        show Ev (d + 1) M_Game_hasSpot 0 0 33 [(2, v0), (0, v1), (0, v2), (0, v3), (0, v4)] [(0, 0)] kd m9 (zqI kd q)
        exact EvX.ret (r := (0, 0)) (by decide +kernel) ⟨rfl, by decide, by decide⟩ ⟨_, rfl, rfl, h⟩
      · have h := h.2 hc
        refine EvX.blk (pc' := 29) [(.iconst 1, 0, 0)] (by decide +kernel) trivial ?_
        show Ev (d + 1) M_Game_hasSpot 0 0 29 [(2, v0), (0, v1), (0, v2), (0, v3), (0, v4)] [(0, 1)] kd m9 (zqI kd q)
        refine EvX.goto (off := 4) (tgt := 33) (by decide +kernel) (by decide) ?_
        exact EvX.ret (r := (0, 1)) (by decide +kernel) ⟨rfl, by decide, by decide⟩ ⟨_, rfl, rfl, h⟩
theorem S_Game_hasSpot {d : Nat} {kd : ZK} {m : ZM} {q : Int → ZM → Prop} {v0 v1 v2 v3 v4 : Int} (h : (zobj kd v0 1 ∧ ∃ q1, CtI d M_Game_hasCell [(2, v0), (0, v1), (0, v2)] kd m q1 ∧ ∀ x2 m3, q1 x2 m3 → ((x2 = 0 → q 0 m3) ∧ (¬ x2 = 0 → (zobj kd v0 1 ∧ ∃ q4, CtI d M_Game_hasAnswer [(2, v0), (0, 0), (0, v3)] kd m3 q4 ∧ ∀ x5 m6, q4 x5 m6 → ((x5 = 0 → q 0 m6) ∧ (¬ x5 = 0 → (zobj kd v0 1 ∧ ∃ q7, CtI d M_Game_hasAnswer [(2, v0), (0, 1), (0, v4)] kd m6 q7 ∧ ∀ x8 m9, q7 x8 m9 → ((x8 = 0 → q 0 m9) ∧ (¬ x8 = 0 → q 1 m9)))))))))) : CtI (d + 1) M_Game_hasSpot [(2, v0), (0, v1), (0, v2), (0, v3), (0, v4)] kd m q :=
  Ct.start k_Game_hasSpot (Nat.le_of_ble_eq_true rfl) ⟨2, Or.inr (Or.inr (Or.inl ⟨rfl, rfl⟩))⟩ (T_Game_hasSpot_0 h)
set_option maxRecDepth 20000 in
set_option maxHeartbeats 1000000 in
theorem T_Game_gain_0 {d : Nat} {kd : ZK} {m : ZM} {q : Int → ZM → Prop} {v0 v1 v2 v3 v4 v5 : Int} (h : (zobj kd v0 1 ∧ (∃ q1, CtI d M_Ap_cellOf [(0, v1), (0, v2), (0, v3)] kd m q1 ∧ ∀ x2 m3, q1 x2 m3 → (zIn kd (m v0 4) 0 x2 ∧ zobj kd v0 1 ∧ (∃ q4, CtI d M_Ap_spotOf [(0, v1), (0, v2), (0, v3), (0, v4), (0, v5)] kd m3 q4 ∧ ∀ x5 m6, q4 x5 m6 → (zIn kd (m3 v0 5) 0 x5 ∧ q (iw ((m3 (m v0 4) x2) * (m6 (m3 v0 5) x5))) m6)))))) : Ev (d + 1) M_Game_gain 0 0 0 [(2, v0), (0, v1), (0, v2), (0, v3), (0, v4), (0, v5)] [] kd m (zqI kd q) := by
  obtain ⟨o1, h⟩ := h
  refine EvX.blk (pc' := 7) [(.aload_n 0, 0, 0), (.getfield 24, 1, 4), (.iload_n 1, 0, 0), (.iload_n 2, 0, 0), (.iload_n 3, 0, 0)] (by decide +kernel) ⟨g_Game_24, trivial⟩ ⟨o1, ?_⟩
  show Ev (d + 1) M_Game_gain 0 0 7 [(2, v0), (0, v1), (0, v2), (0, v3), (0, v4), (0, v5)] [(0, v3), (0, v2), (0, v1), (2, m v0 4)] kd m (zqI kd q)
  obtain ⟨q1, hq, h⟩ := h
  refine EvX.callS (mc := 0) (ms := 0) (as := [(0, v1), (0, v2), (0, v3)]) (st := [(2, m v0 4)]) (by decide +kernel) l_Game_40 k_Ap_cellOf s_Ap_cellOf a_Ap_cellOf (by decide) (Nat.le_of_ble_eq_true rfl) hq (fun r kd1 m3 hr => ?_)
  obtain ⟨x2, rfl, hk, hr⟩ := hr
  subst kd1
  have h := h x2 m3 hr
  show Ev (d + 1) M_Game_gain 0 0 10 [(2, v0), (0, v1), (0, v2), (0, v3), (0, v4), (0, v5)] [(0, x2), (2, m v0 4)] kd m3 (zqI kd q)
  obtain ⟨o1, o2, h⟩ := h
  refine EvX.blk (pc' := 22) [(.iaload, 0, 0), (.aload_n 0, 0, 0), (.getfield 28, 1, 5), (.iload_n 1, 0, 0), (.iload_n 2, 0, 0), (.iload_n 3, 0, 0), (.iload 4, 0, 0), (.iload 5, 0, 0)] (by decide +kernel) ⟨g_Game_28, trivial⟩ ⟨o1, o2, ?_⟩
  show Ev (d + 1) M_Game_gain 0 0 22 [(2, v0), (0, v1), (0, v2), (0, v3), (0, v4), (0, v5)] [(0, v5), (0, v4), (0, v3), (0, v2), (0, v1), (2, m3 v0 5), (0, m3 (m v0 4) x2)] kd m3 (zqI kd q)
  obtain ⟨q4, hq, h⟩ := h
  refine EvX.callS (mc := 0) (ms := 0) (as := [(0, v1), (0, v2), (0, v3), (0, v4), (0, v5)]) (st := [(2, m3 v0 5), (0, m3 (m v0 4) x2)]) (by decide +kernel) l_Game_48 k_Ap_spotOf s_Ap_spotOf a_Ap_spotOf (by decide) (Nat.le_of_ble_eq_true rfl) hq (fun r kd1 m6 hr => ?_)
  obtain ⟨x5, rfl, hk, hr⟩ := hr
  subst kd1
  have h := h x5 m6 hr
  show Ev (d + 1) M_Game_gain 0 0 25 [(2, v0), (0, v1), (0, v2), (0, v3), (0, v4), (0, v5)] [(0, x5), (2, m3 v0 5), (0, m3 (m v0 4) x2)] kd m6 (zqI kd q)
  obtain ⟨o1, h⟩ := h
  refine EvX.blk (pc' := 27) [(.iaload, 0, 0), (.imul, 0, 0)] (by decide +kernel) trivial ⟨o1, ?_⟩
  show Ev (d + 1) M_Game_gain 0 0 27 [(2, v0), (0, v1), (0, v2), (0, v3), (0, v4), (0, v5)] [(0, iw ((m3 (m v0 4) x2) * (m6 (m3 v0 5) x5)))] kd m6 (zqI kd q)
  exact EvX.ret (r := (0, iw ((m3 (m v0 4) x2) * (m6 (m3 v0 5) x5)))) (by decide +kernel) rfl ⟨_, rfl, rfl, h⟩
theorem S_Game_gain {d : Nat} {kd : ZK} {m : ZM} {q : Int → ZM → Prop} {v0 v1 v2 v3 v4 v5 : Int} (h : (zobj kd v0 1 ∧ (∃ q1, CtI d M_Ap_cellOf [(0, v1), (0, v2), (0, v3)] kd m q1 ∧ ∀ x2 m3, q1 x2 m3 → (zIn kd (m v0 4) 0 x2 ∧ zobj kd v0 1 ∧ (∃ q4, CtI d M_Ap_spotOf [(0, v1), (0, v2), (0, v3), (0, v4), (0, v5)] kd m3 q4 ∧ ∀ x5 m6, q4 x5 m6 → (zIn kd (m3 v0 5) 0 x5 ∧ q (iw ((m3 (m v0 4) x2) * (m6 (m3 v0 5) x5))) m6)))))) : CtI (d + 1) M_Game_gain [(2, v0), (0, v1), (0, v2), (0, v3), (0, v4), (0, v5)] kd m q :=
  Ct.start k_Game_gain (Nat.le_of_ble_eq_true rfl) ⟨1, Or.inr (Or.inl ⟨rfl, rfl⟩)⟩ (T_Game_gain_0 h)
set_option maxRecDepth 20000 in
set_option maxHeartbeats 1000000 in
theorem T_Game_winByParity_0 {d : Nat} {kd : ZK} {m : ZM} {q : ZM → Prop} {v0 v1 v2 v3 : Int} (h : (Ev (d + 1) M_Game_winByParity 0 0 3 [(2, v0), (0, v1), (0, v2), (0, v3), (0, 0), zJ] [] kd m (zqV kd q))) : Ev (d + 1) M_Game_winByParity 0 0 0 [(2, v0), (0, v1), (0, v2), (0, v3), zJ, zJ] [] kd m (zqV kd q) := by
  refine EvX.blk (pc' := 3) [(.iconst 0, 0, 0), (.istore 4, 0, 0)] (by decide +kernel) trivial ?_
  show Ev (d + 1) M_Game_winByParity 0 0 3 [(2, v0), (0, v1), (0, v2), (0, v3), (0, 0), zJ] [] kd m (zqV kd q)
  exact h
theorem S_Game_winByParity {d : Nat} {kd : ZK} {m : ZM} {q : ZM → Prop} {v0 v1 v2 v3 : Int} (h : (Ev (d + 1) M_Game_winByParity 0 0 3 [(2, v0), (0, v1), (0, v2), (0, v3), (0, 0), zJ] [] kd m (zqV kd q))) : CtV (d + 1) M_Game_winByParity [(2, v0), (0, v1), (0, v2), (0, v3)] kd m q :=
  Ct.start k_Game_winByParity (Nat.le_of_ble_eq_true rfl) ⟨0, Or.inl ⟨rfl, rfl⟩⟩ (T_Game_winByParity_0 h)
set_option maxRecDepth 20000 in
set_option maxHeartbeats 1000000 in
theorem T_Game_winByParity_3 {d : Nat} {kd : ZK} {m : ZM} {q : ZM → Prop} {v0 v1 v2 v3 v4 : Int} (h : (zobj kd v0 1 ∧ (((m v0 2) ≤ v4 → q m) ∧ (¬ (m v0 2) ≤ v4 → (Ev (d + 1) M_Game_winByParity 0 0 15 [(2, v0), (0, v1), (0, v2), (0, v3), (0, v4), (0, 0)] [] kd m (zqV kd q)))))) : Ev (d + 1) M_Game_winByParity 0 0 3 [(2, v0), (0, v1), (0, v2), (0, v3), (0, v4), zJ] [] kd m (zqV kd q) := by
  obtain ⟨o1, h⟩ := h
  refine EvX.blk (pc' := 9) [(.iload 4, 0, 0), (.aload_n 0, 0, 0), (.getfield 18, 1, 2)] (by decide +kernel) ⟨g_Game_18, trivial⟩ ⟨o1, ?_⟩
  show Ev (d + 1) M_Game_winByParity 0 0 9 [(2, v0), (0, v1), (0, v2), (0, v3), (0, v4), zJ] [(0, m v0 2), (0, v4)] kd m (zqV kd q)
  refine EvX.icmp_ge (off := 58) (tgt := 67) (by decide +kernel) (by decide) (fun hc => ?_) (fun hc => ?_)
  · have h := h.1 hc
    exact EvX.ret (r := zJ) (by decide +kernel) rfl ⟨rfl, rfl, h⟩
  · have h := h.2 hc
    refine EvX.blk (pc' := 15) [(.iconst 0, 0, 0), (.istore 5, 0, 0)] (by decide +kernel) trivial ?_
    show Ev (d + 1) M_Game_winByParity 0 0 15 [(2, v0), (0, v1), (0, v2), (0, v3), (0, v4), (0, 0)] [] kd m (zqV kd q)
    exact h
set_option maxRecDepth 20000 in
set_option maxHeartbeats 1000000 in
theorem T_Game_winByParity_15 {d : Nat} {kd : ZK} {m : ZM} {q : ZM → Prop} {v0 v1 v2 v3 v4 v5 : Int} (h : (zobj kd v0 1 ∧ (((m v0 3) ≤ v5 → (Ev (d + 1) M_Game_winByParity 0 0 3 [(2, v0), (0, v1), (0, v2), (0, v3), (0, iw (v4 + 1)), zJ] [] kd m (zqV kd q))) ∧ (¬ (m v0 3) ≤ v5 → (zobj kd v0 1 ∧ (∃ q1, CtI d M_Ap_spotOf [(0, 0), (0, v1), (0, v2), (0, v4), (0, v5)] kd m q1 ∧ ∀ x2 m3, q1 x2 m3 → (((Int.tmod (iw (v4 + v5)) 2) ≠ v3 → (zIn kd (m v0 5) 0 x2 ∧ (Ev (d + 1) M_Game_winByParity 0 0 15 [(2, v0), (0, v1), (0, v2), (0, v3), (0, v4), (0, iw (v5 + 1))] [] kd (zup m3 (m v0 5) x2 0) (zqV kd q)))) ∧ (¬ (Int.tmod (iw (v4 + v5)) 2) ≠ v3 → (zIn kd (m v0 5) 0 x2 ∧ (Ev (d + 1) M_Game_winByParity 0 0 15 [(2, v0), (0, v1), (0, v2), (0, v3), (0, v4), (0, iw (v5 + 1))] [] kd (zup m3 (m v0 5) x2 1) (zqV kd q))))))))))) : Ev (d + 1) M_Game_winByParity 0 0 15 [(2, v0), (0, v1), (0, v2), (0, v3), (0, v4), (0, v5)] [] kd m (zqV kd q) := by
  obtain ⟨o1, h⟩ := h
  refine EvX.blk (pc' := 21) [(.iload 5, 0, 0), (.aload_n 0, 0, 0), (.getfield 21, 1, 3)] (by decide +kernel) ⟨g_Game_21, trivial⟩ ⟨o1, ?_⟩
  show Ev (d + 1) M_Game_winByParity 0 0 21 [(2, v0), (0, v1), (0, v2), (0, v3), (0, v4), (0, v5)] [(0, m v0 3), (0, v5)] kd m (zqV kd q)
  refine EvX.icmp_ge (off := 40) (tgt := 61) (by decide +kernel) (by decide) (fun hc => ?_) (fun hc => ?_)
  · have h := h.1 hc
    refine EvX.blk (pc' := 64) [(.iinc 4 1, 0, 0)] (by decide +kernel) trivial ?_
    show Ev (d + 1) M_Game_winByParity 0 0 64 [(2, v0), (0, v1), (0, v2), (0, v3), (0, iw (v4 + 1)), (0, v5)] [] kd m (zqV kd q)
    refine EvX.goto (off := (-61)) (tgt := 3) (by decide +kernel) (by decide) ?_
    exact EvX.weak (ls2 := [(2, v0), (0, v1), (0, v2), (0, v3), (0, iw (v4 + 1)), zJ]) (zwk_of ⟨Or.inr rfl, Or.inr rfl, Or.inr rfl, Or.inr rfl, Or.inr rfl, Or.inl rfl, trivial⟩) h
  · have h := h.2 hc
    obtain ⟨o1, h⟩ := h
    refine EvX.blk (pc' := 35) [(.aload_n 0, 0, 0), (.getfield 28, 1, 5), (.iconst 0, 0, 0), (.iload_n 1, 0, 0), (.iload_n 2, 0, 0), (.iload 4, 0, 0), (.iload 5, 0, 0)] (by decide +kernel) ⟨g_Game_28, trivial⟩ ⟨o1, ?_⟩
    show Ev (d + 1) M_Game_winByParity 0 0 35 [(2, v0), (0, v1), (0, v2), (0, v3), (0, v4), (0, v5)] [(0, v5), (0, v4), (0, v2), (0, v1), (0, 0), (2, m v0 5)] kd m (zqV kd q)
    obtain ⟨q1, hq, h⟩ := h
    refine EvX.callS (mc := 0) (ms := 0) (as := [(0, 0), (0, v1), (0, v2), (0, v4), (0, v5)]) (st := [(2, m v0 5)]) (by decide +kernel) l_Game_48 k_Ap_spotOf s_Ap_spotOf a_Ap_spotOf (by decide) (Nat.le_of_ble_eq_true rfl) hq (fun r kd1 m3 hr => ?_)
    obtain ⟨x2, rfl, hk, hr⟩ := hr
    subst kd1
    have h := h x2 m3 hr
    show Ev (d + 1) M_Game_winByParity 0 0 38 [(2, v0), (0, v1), (0, v2), (0, v3), (0, v4), (0, v5)] [(0, x2), (2, m v0 5)] kd m3 (zqV kd q)
    refine EvX.blk (pc' := 46) [(.iload 4, 0, 0), (.iload 5, 0, 0), (.iadd, 0, 0), (.iconst 2, 0, 0), (.irem, 0, 0), (.iload_n 3, 0, 0)] (by decide +kernel) trivial ⟨by decide, ?_⟩
    show Ev (d + 1) M_Game_winByParity 0 0 46 [(2, v0), (0, v1), (0, v2), (0, v3), (0, v4), (0, v5)] [(0, v3), (0, Int.tmod (iw (v4 + v5)) 2), (0, x2), (2, m v0 5)] kd m3 (zqV kd q)
    refine EvX.icmp_ne (off := 7) (tgt := 53) (by decide +kernel) (by decide) (fun hc => ?_) (fun hc => ?_)
    · have h := h.1 hc
      obtain ⟨o1, h⟩ := h
      refine EvX.blk (pc' := 58) [(.iconst 0, 0, 0), (.iastore, 0, 0), (.iinc 5 1, 0, 0)] (by decide +kernel) trivial ⟨o1, ?_⟩
      show Ev (d + 1) M_Game_winByParity 0 0 58 [(2, v0), (0, v1), (0, v2), (0, v3), (0, v4), (0, iw (v5 + 1))] [] kd (zup m3 (m v0 5) x2 0) (zqV kd q)
      refine EvX.goto (off := (-43)) (tgt := 15) (by decide +kernel) (by decide) ?_
      exact h
    · have h := h.2 hc
      refine EvX.blk (pc' := 50) [(.iconst 1, 0, 0)] (by decide +kernel) trivial ?_
      show Ev (d + 1) M_Game_winByParity 0 0 50 [(2, v0), (0, v1), (0, v2), (0, v3), (0, v4), (0, v5)] [(0, 1), (0, x2), (2, m v0 5)] kd m3 (zqV kd q)
      refine EvX.goto (off := 4) (tgt := 54) (by decide +kernel) (by decide) ?_
      obtain ⟨o1, h⟩ := h
      refine EvX.blk (pc' := 58) [(.iastore, 0, 0), (.iinc 5 1, 0, 0)] (by decide +kernel) trivial ⟨o1, ?_⟩
      show Ev (d + 1) M_Game_winByParity 0 0 58 [(2, v0), (0, v1), (0, v2), (0, v3), (0, v4), (0, iw (v5 + 1))] [] kd (zup m3 (m v0 5) x2 1) (zqV kd q)
      refine EvX.goto (off := (-43)) (tgt := 15) (by decide +kernel) (by decide) ?_
      exact h
set_option maxRecDepth 20000 in
set_option maxHeartbeats 1000000 in
theorem T_Game_exchangeAnswers_0 {d : Nat} {kd : ZK} {m : ZM} {q : ZM → Prop} {v0 v1 v2 v3 v4 : Int} (h : (Ev (d + 1) M_Game_exchangeAnswers 0 0 3 [(2, v0), (0, v1), (0, v2), (0, v3), (0, v4), (0, 0), zJ, zJ, zJ] [] kd m (zqV kd q))) : Ev (d + 1) M_Game_exchangeAnswers 0 0 0 [(2, v0), (0, v1), (0, v2), (0, v3), (0, v4), zJ, zJ, zJ, zJ] [] kd m (zqV kd q) := by
  refine EvX.blk (pc' := 3) [(.iconst 0, 0, 0), (.istore 5, 0, 0)] (by decide +kernel) trivial ?_
  show Ev (d + 1) M_Game_exchangeAnswers 0 0 3 [(2, v0), (0, v1), (0, v2), (0, v3), (0, v4), (0, 0), zJ, zJ, zJ] [] kd m (zqV kd q)
  exact h
theorem S_Game_exchangeAnswers {d : Nat} {kd : ZK} {m : ZM} {q : ZM → Prop} {v0 v1 v2 v3 v4 : Int} (h : (Ev (d + 1) M_Game_exchangeAnswers 0 0 3 [(2, v0), (0, v1), (0, v2), (0, v3), (0, v4), (0, 0), zJ, zJ, zJ] [] kd m (zqV kd q))) : CtV (d + 1) M_Game_exchangeAnswers [(2, v0), (0, v1), (0, v2), (0, v3), (0, v4)] kd m q :=
  Ct.start k_Game_exchangeAnswers (Nat.le_of_ble_eq_true rfl) ⟨0, Or.inl ⟨rfl, rfl⟩⟩ (T_Game_exchangeAnswers_0 h)
set_option maxRecDepth 20000 in
set_option maxHeartbeats 1000000 in
theorem T_Game_exchangeAnswers_3 {d : Nat} {kd : ZK} {m : ZM} {q : ZM → Prop} {v0 v1 v2 v3 v4 v5 : Int} (h : (zobj kd v0 1 ∧ ∃ q1, CtI d M_Game_questionsOf [(2, v0), (0, iw (1 - v1))] kd m q1 ∧ ∀ x2 m3, q1 x2 m3 → ((x2 ≤ v5 → q m3) ∧ (¬ x2 ≤ v5 → (Ev (d + 1) M_Game_exchangeAnswers 0 0 18 [(2, v0), (0, v1), (0, v2), (0, v3), (0, v4), (0, v5), (0, 0), zJ, zJ] [] kd m3 (zqV kd q)))))) : Ev (d + 1) M_Game_exchangeAnswers 0 0 3 [(2, v0), (0, v1), (0, v2), (0, v3), (0, v4), (0, v5), zJ, zJ, zJ] [] kd m (zqV kd q) := by
  refine EvX.blk (pc' := 9) [(.iload 5, 0, 0), (.aload_n 0, 0, 0), (.iconst 1, 0, 0), (.iload_n 1, 0, 0), (.isub, 0, 0)] (by decide +kernel) trivial ?_
  show Ev (d + 1) M_Game_exchangeAnswers 0 0 9 [(2, v0), (0, v1), (0, v2), (0, v3), (0, v4), (0, v5), zJ, zJ, zJ] [(0, iw (1 - v1)), (2, v0), (0, v5)] kd m (zqV kd q)
  obtain ⟨ov, h⟩ := h
  obtain ⟨q1, hq, h⟩ := h
  refine EvX.callV (c := 1) (mc := 0) (ms := 0) (as := [(0, iw (1 - v1))]) (st := [(0, v5)]) (by decide +kernel) l_Game_56 k_Game_questionsOf v_Game_questionsOf a_Game_questionsOf (by decide) (Nat.le_of_ble_eq_true rfl) rfl ov hq (fun r kd1 m3 hr => ?_)
  obtain ⟨x2, rfl, hk, hr⟩ := hr
  subst kd1
  have h := h x2 m3 hr
  show Ev (d + 1) M_Game_exchangeAnswers 0 0 12 [(2, v0), (0, v1), (0, v2), (0, v3), (0, v4), (0, v5), zJ, zJ, zJ] [(0, x2), (0, v5)] kd m3 (zqV kd q)
  refine EvX.icmp_ge (off := 77) (tgt := 89) (by decide +kernel) (by decide) (fun hc => ?_) (fun hc => ?_)
  · have h := h.1 hc
    exact EvX.ret (r := zJ) (by decide +kernel) rfl ⟨rfl, rfl, h⟩
  · have h := h.2 hc
    refine EvX.blk (pc' := 18) [(.iconst 0, 0, 0), (.istore 6, 0, 0)] (by decide +kernel) trivial ?_
    show Ev (d + 1) M_Game_exchangeAnswers 0 0 18 [(2, v0), (0, v1), (0, v2), (0, v3), (0, v4), (0, v5), (0, 0), zJ, zJ] [] kd m3 (zqV kd q)
    exact h
set_option maxRecDepth 20000 in
set_option maxHeartbeats 1000000 in
theorem T_Game_exchangeAnswers_18 {d : Nat} {kd : ZK} {m : ZM} {q : ZM → Prop} {v0 v1 v2 v3 v4 v5 v6 : Int} (h : (zobj kd v0 1 ∧ ∃ q1, CtI d M_Game_answersOf [(2, v0), (0, iw (1 - v1))] kd m q1 ∧ ∀ x2 m3, q1 x2 m3 → ((x2 ≤ v6 → (Ev (d + 1) M_Game_exchangeAnswers 0 0 3 [(2, v0), (0, v1), (0, v2), (0, v3), (0, v4), (0, iw (v5 + 1)), zJ, zJ, zJ] [] kd m3 (zqV kd q))) ∧ (¬ x2 ≤ v6 → (∃ q4, CtI d M_Ap_spotOf [(0, v1), (0, v2), (0, v5), (0, v3), (0, v6)] kd m3 q4 ∧ ∀ x5 m6, q4 x5 m6 → (∃ q7, CtI d M_Ap_spotOf [(0, v1), (0, v2), (0, v5), (0, v4), (0, v6)] kd m6 q7 ∧ ∀ x8 m9, q7 x8 m9 → (zobj kd v0 1 ∧ (∃ q10, CtV d M_Game_exchangeEntries [(2, m9 v0 5), (0, x5), (0, x8)] kd m9 q10 ∧ ∀ m12, q10 m12 → (zobj kd v0 1 ∧ (∃ q13, CtV d M_Game_exchangeEntries [(2, m12 v0 6), (0, x5), (0, x8)] kd m12 q13 ∧ ∀ m15, q13 m15 → (Ev (d + 1) M_Game_exchangeAnswers 0 0 18 [(2, v0), (0, v1), (0, v2), (0, v3), (0, v4), (0, v5), (0, iw (v6 + 1)), zJ, zJ] [] kd m15 (zqV kd q)))))))))))) : Ev (d + 1) M_Game_exchangeAnswers 0 0 18 [(2, v0), (0, v1), (0, v2), (0, v3), (0, v4), (0, v5), (0, v6), zJ, zJ] [] kd m (zqV kd q) := by
  refine EvX.blk (pc' := 24) [(.iload 6, 0, 0), (.aload_n 0, 0, 0), (.iconst 1, 0, 0), (.iload_n 1, 0, 0), (.isub, 0, 0)] (by decide +kernel) trivial ?_
  show Ev (d + 1) M_Game_exchangeAnswers 0 0 24 [(2, v0), (0, v1), (0, v2), (0, v3), (0, v4), (0, v5), (0, v6), zJ, zJ] [(0, iw (1 - v1)), (2, v0), (0, v6)] kd m (zqV kd q)
  obtain ⟨ov, h⟩ := h
  obtain ⟨q1, hq, h⟩ := h
  refine EvX.callV (c := 1) (mc := 0) (ms := 0) (as := [(0, iw (1 - v1))]) (st := [(0, v6)]) (by decide +kernel) l_Game_60 k_Game_answersOf v_Game_answersOf a_Game_answersOf (by decide) (Nat.le_of_ble_eq_true rfl) rfl ov hq (fun r kd1 m3 hr => ?_)
  obtain ⟨x2, rfl, hk, hr⟩ := hr
  subst kd1
  have h := h x2 m3 hr
  show Ev (d + 1) M_Game_exchangeAnswers 0 0 27 [(2, v0), (0, v1), (0, v2), (0, v3), (0, v4), (0, v5), (0, v6), zJ, zJ] [(0, x2), (0, v6)] kd m3 (zqV kd q)
  refine EvX.icmp_ge (off := 56) (tgt := 83) (by decide +kernel) (by decide) (fun hc => ?_) (fun hc => ?_)
  · have h := h.1 hc
    refine EvX.blk (pc' := 86) [(.iinc 5 1, 0, 0)] (by decide +kernel) trivial ?_
    show Ev (d + 1) M_Game_exchangeAnswers 0 0 86 [(2, v0), (0, v1), (0, v2), (0, v3), (0, v4), (0, iw (v5 + 1)), (0, v6), zJ, zJ] [] kd m3 (zqV kd q)
    refine EvX.goto (off := (-83)) (tgt := 3) (by decide +kernel) (by decide) ?_
    exact EvX.weak (ls2 := [(2, v0), (0, v1), (0, v2), (0, v3), (0, v4), (0, iw (v5 + 1)), zJ, zJ, zJ]) (zwk_of ⟨Or.inr rfl, Or.inr rfl, Or.inr rfl, Or.inr rfl, Or.inr rfl, Or.inr rfl, Or.inl rfl, Or.inl rfl, Or.inl rfl, trivial⟩) h
  · have h := h.2 hc
    refine EvX.blk (pc' := 37) [(.iload_n 1, 0, 0), (.iload_n 2, 0, 0), (.iload 5, 0, 0), (.iload_n 3, 0, 0), (.iload 6, 0, 0)] (by decide +kernel) trivial ?_
    show Ev (d + 1) M_Game_exchangeAnswers 0 0 37 [(2, v0), (0, v1), (0, v2), (0, v3), (0, v4), (0, v5), (0, v6), zJ, zJ] [(0, v6), (0, v3), (0, v5), (0, v2), (0, v1)] kd m3 (zqV kd q)
    obtain ⟨q4, hq, h⟩ := h
    refine EvX.callS (mc := 0) (ms := 0) (as := [(0, v1), (0, v2), (0, v5), (0, v3), (0, v6)]) (st := []) (by decide +kernel) l_Game_48 k_Ap_spotOf s_Ap_spotOf a_Ap_spotOf (by decide) (Nat.le_of_ble_eq_true rfl) hq (fun r kd1 m6 hr => ?_)
    obtain ⟨x5, rfl, hk, hr⟩ := hr
    subst kd1
    have h := h x5 m6 hr
    show Ev (d + 1) M_Game_exchangeAnswers 0 0 40 [(2, v0), (0, v1), (0, v2), (0, v3), (0, v4), (0, v5), (0, v6), zJ, zJ] [(0, x5)] kd m6 (zqV kd q)
    refine EvX.blk (pc' := 50) [(.istore 7, 0, 0), (.iload_n 1, 0, 0), (.iload_n 2, 0, 0), (.iload 5, 0, 0), (.iload 4, 0, 0), (.iload 6, 0, 0)] (by decide +kernel) trivial ?_
    show Ev (d + 1) M_Game_exchangeAnswers 0 0 50 [(2, v0), (0, v1), (0, v2), (0, v3), (0, v4), (0, v5), (0, v6), (0, x5), zJ] [(0, v6), (0, v4), (0, v5), (0, v2), (0, v1)] kd m6 (zqV kd q)
    obtain ⟨q7, hq, h⟩ := h
    refine EvX.callS (mc := 0) (ms := 0) (as := [(0, v1), (0, v2), (0, v5), (0, v4), (0, v6)]) (st := []) (by decide +kernel) l_Game_48 k_Ap_spotOf s_Ap_spotOf a_Ap_spotOf (by decide) (Nat.le_of_ble_eq_true rfl) hq (fun r kd1 m9 hr => ?_)
    obtain ⟨x8, rfl, hk, hr⟩ := hr
    subst kd1
    have h := h x8 m9 hr
    show Ev (d + 1) M_Game_exchangeAnswers 0 0 53 [(2, v0), (0, v1), (0, v2), (0, v3), (0, v4), (0, v5), (0, v6), (0, x5), zJ] [(0, x8)] kd m9 (zqV kd q)
    obtain ⟨o1, h⟩ := h
    refine EvX.blk (pc' := 63) [(.istore 8, 0, 0), (.aload_n 0, 0, 0), (.getfield 28, 1, 5), (.iload 7, 0, 0), (.iload 8, 0, 0)] (by decide +kernel) ⟨g_Game_28, trivial⟩ ⟨o1, ?_⟩
    show Ev (d + 1) M_Game_exchangeAnswers 0 0 63 [(2, v0), (0, v1), (0, v2), (0, v3), (0, v4), (0, v5), (0, v6), (0, x5), (0, x8)] [(0, x8), (0, x5), (2, m9 v0 5)] kd m9 (zqV kd q)
    obtain ⟨q10, hq, h⟩ := h
    refine EvX.callS (mc := 0) (ms := 0) (as := [(2, m9 v0 5), (0, x5), (0, x8)]) (st := []) (by decide +kernel) l_Game_73 k_Game_exchangeEntries s_Game_exchangeEntries a_Game_exchangeEntries (by decide) (Nat.le_of_ble_eq_true rfl) hq (fun r kd1 m12 hr => ?_)
    obtain ⟨rfl, hk, hr⟩ := hr
    subst kd1
    have h := h m12 hr
    show Ev (d + 1) M_Game_exchangeAnswers 0 0 66 [(2, v0), (0, v1), (0, v2), (0, v3), (0, v4), (0, v5), (0, v6), (0, x5), (0, x8)] [] kd m12 (zqV kd q)
    obtain ⟨o1, h⟩ := h
    refine EvX.blk (pc' := 74) [(.aload_n 0, 0, 0), (.getfield 31, 1, 6), (.iload 7, 0, 0), (.iload 8, 0, 0)] (by decide +kernel) ⟨g_Game_31, trivial⟩ ⟨o1, ?_⟩
    show Ev (d + 1) M_Game_exchangeAnswers 0 0 74 [(2, v0), (0, v1), (0, v2), (0, v3), (0, v4), (0, v5), (0, v6), (0, x5), (0, x8)] [(0, x8), (0, x5), (2, m12 v0 6)] kd m12 (zqV kd q)
    obtain ⟨q13, hq, h⟩ := h
    refine EvX.callS (mc := 0) (ms := 0) (as := [(2, m12 v0 6), (0, x5), (0, x8)]) (st := []) (by decide +kernel) l_Game_73 k_Game_exchangeEntries s_Game_exchangeEntries a_Game_exchangeEntries (by decide) (Nat.le_of_ble_eq_true rfl) hq (fun r kd1 m15 hr => ?_)
    obtain ⟨rfl, hk, hr⟩ := hr
    subst kd1
    have h := h m15 hr
    show Ev (d + 1) M_Game_exchangeAnswers 0 0 77 [(2, v0), (0, v1), (0, v2), (0, v3), (0, v4), (0, v5), (0, v6), (0, x5), (0, x8)] [] kd m15 (zqV kd q)
    refine EvX.blk (pc' := 80) [(.iinc 6 1, 0, 0)] (by decide +kernel) trivial ?_
    show Ev (d + 1) M_Game_exchangeAnswers 0 0 80 [(2, v0), (0, v1), (0, v2), (0, v3), (0, v4), (0, v5), (0, iw (v6 + 1)), (0, x5), (0, x8)] [] kd m15 (zqV kd q)
    refine EvX.goto (off := (-62)) (tgt := 18) (by decide +kernel) (by decide) ?_
    exact EvX.weak (ls2 := [(2, v0), (0, v1), (0, v2), (0, v3), (0, v4), (0, v5), (0, iw (v6 + 1)), zJ, zJ]) (zwk_of ⟨Or.inr rfl, Or.inr rfl, Or.inr rfl, Or.inr rfl, Or.inr rfl, Or.inr rfl, Or.inr rfl, Or.inl rfl, Or.inl rfl, trivial⟩) h
set_option maxRecDepth 20000 in
set_option maxHeartbeats 1000000 in
theorem T_Game_exchangeEntries_0 {d : Nat} {kd : ZK} {m : ZM} {q : ZM → Prop} {v0 v1 v2 : Int} (h : (zIn kd v0 0 v1 ∧ zIn kd v0 0 v2 ∧ zIn kd v0 0 v1 ∧ zIn kd v0 0 v2 ∧ q (zup (zup m v0 v1 (m v0 v2)) v0 v2 (m v0 v1)))) : Ev (d + 1) M_Game_exchangeEntries 0 0 0 [(2, v0), (0, v1), (0, v2), zJ] [] kd m (zqV kd q) := by
  obtain ⟨o1, o2, o3, o4, h⟩ := h
  refine EvX.blk (pc' := 14) [(.aload_n 0, 0, 0), (.iload_n 1, 0, 0), (.iaload, 0, 0), (.istore_n 3, 0, 0), (.aload_n 0, 0, 0), (.iload_n 1, 0, 0), (.aload_n 0, 0, 0), (.iload_n 2, 0, 0), (.iaload, 0, 0), (.iastore, 0, 0), (.aload_n 0, 0, 0), (.iload_n 2, 0, 0), (.iload_n 3, 0, 0), (.iastore, 0, 0)] (by decide +kernel) trivial ⟨o1, o2, o3, o4, ?_⟩
  show Ev (d + 1) M_Game_exchangeEntries 0 0 14 [(2, v0), (0, v1), (0, v2), (0, m v0 v1)] [] kd (zup (zup m v0 v1 (m v0 v2)) v0 v2 (m v0 v1)) (zqV kd q)
  exact EvX.ret (r := zJ) (by decide +kernel) rfl ⟨rfl, rfl, h⟩
theorem S_Game_exchangeEntries {d : Nat} {kd : ZK} {m : ZM} {q : ZM → Prop} {v0 v1 v2 : Int} (h : (zIn kd v0 0 v1 ∧ zIn kd v0 0 v2 ∧ zIn kd v0 0 v1 ∧ zIn kd v0 0 v2 ∧ q (zup (zup m v0 v1 (m v0 v2)) v0 v2 (m v0 v1)))) : CtV (d + 1) M_Game_exchangeEntries [(2, v0), (0, v1), (0, v2)] kd m q :=
  Ct.start k_Game_exchangeEntries (Nat.le_of_ble_eq_true rfl) ⟨0, Or.inl ⟨rfl, rfl⟩⟩ (T_Game_exchangeEntries_0 h)
set_option maxRecDepth 20000 in
set_option maxHeartbeats 1000000 in
theorem T_Game_dropQuestion_0 {d : Nat} {kd : ZK} {m : ZM} {q : Int → ZM → Prop} {v0 v1 v2 : Int} (h : (zobj kd v0 1 ∧ ∃ q1, CtI d M_Game_questionsOf [(2, v0), (0, v1)] kd m q1 ∧ ∀ x2 m3, q1 x2 m3 → (Ev (d + 1) M_Game_dropQuestion 0 0 11 [(2, v0), (0, v1), zJ, (0, iw (x2 - 1)), (0, v2)] [] kd m3 (zqI kd q)))) : Ev (d + 1) M_Game_dropQuestion 0 0 0 [(2, v0), (0, v1), (0, v2), zJ, zJ] [] kd m (zqI kd q) := by
  refine EvX.blk (pc' := 2) [(.aload_n 0, 0, 0), (.iload_n 1, 0, 0)] (by decide +kernel) trivial ?_
  show Ev (d + 1) M_Game_dropQuestion 0 0 2 [(2, v0), (0, v1), (0, v2), zJ, zJ] [(0, v1), (2, v0)] kd m (zqI kd q)
  obtain ⟨ov, h⟩ := h
  obtain ⟨q1, hq, h⟩ := h
  refine EvX.callV (c := 1) (mc := 0) (ms := 0) (as := [(0, v1)]) (st := []) (by decide +kernel) l_Game_56 k_Game_questionsOf v_Game_questionsOf a_Game_questionsOf (by decide) (Nat.le_of_ble_eq_true rfl) rfl ov hq (fun r kd1 m3 hr => ?_)
  obtain ⟨x2, rfl, hk, hr⟩ := hr
  subst kd1
  have h := h x2 m3 hr
  show Ev (d + 1) M_Game_dropQuestion 0 0 5 [(2, v0), (0, v1), (0, v2), zJ, zJ] [(0, x2)] kd m3 (zqI kd q)
  refine EvX.blk (pc' := 11) [(.iconst 1, 0, 0), (.isub, 0, 0), (.istore_n 3, 0, 0), (.iload_n 2, 0, 0), (.istore 4, 0, 0)] (by decide +kernel) trivial ?_
  show Ev (d + 1) M_Game_dropQuestion 0 0 11 [(2, v0), (0, v1), (0, v2), (0, iw (x2 - 1)), (0, v2)] [] kd m3 (zqI kd q)
  exact EvX.weak (ls2 := [(2, v0), (0, v1), zJ, (0, iw (x2 - 1)), (0, v2)]) (zwk_of ⟨Or.inr rfl, Or.inr rfl, Or.inl rfl, Or.inr rfl, Or.inr rfl, trivial⟩) h
theorem S_Game_dropQuestion {d : Nat} {kd : ZK} {m : ZM} {q : Int → ZM → Prop} {v0 v1 v2 : Int} (h : (zobj kd v0 1 ∧ ∃ q1, CtI d M_Game_questionsOf [(2, v0), (0, v1)] kd m q1 ∧ ∀ x2 m3, q1 x2 m3 → (Ev (d + 1) M_Game_dropQuestion 0 0 11 [(2, v0), (0, v1), zJ, (0, iw (x2 - 1)), (0, v2)] [] kd m3 (zqI kd q)))) : CtI (d + 1) M_Game_dropQuestion [(2, v0), (0, v1), (0, v2)] kd m q :=
  Ct.start k_Game_dropQuestion (Nat.le_of_ble_eq_true rfl) ⟨1, Or.inr (Or.inl ⟨rfl, rfl⟩)⟩ (T_Game_dropQuestion_0 h)
set_option maxRecDepth 20000 in
set_option maxHeartbeats 1000000 in
theorem T_Game_dropQuestion_11 {d : Nat} {kd : ZK} {m : ZM} {q : Int → ZM → Prop} {v0 v1 v3 v4 : Int} (h : ((v3 ≤ v4 → (zobj kd v0 1 ∧ ∃ q1, CtV d M_Game_setQuestions [(2, v0), (0, v1), (0, v3)] kd m q1 ∧ ∀ m3, q1 m3 → q v3 m3)) ∧ (¬ v3 ≤ v4 → (zobj kd v0 1 ∧ ∃ q4, CtV d M_Game_copyOver [(2, v0), (0, v1), (0, iw (v4 + 1)), (0, v4)] kd m q4 ∧ ∀ m6, q4 m6 → (Ev (d + 1) M_Game_dropQuestion 0 0 11 [(2, v0), (0, v1), zJ, (0, v3), (0, iw (v4 + 1))] [] kd m6 (zqI kd q)))))) : Ev (d + 1) M_Game_dropQuestion 0 0 11 [(2, v0), (0, v1), zJ, (0, v3), (0, v4)] [] kd m (zqI kd q) := by
  refine EvX.blk (pc' := 14) [(.iload 4, 0, 0), (.iload_n 3, 0, 0)] (by decide +kernel) trivial ?_
  show Ev (d + 1) M_Game_dropQuestion 0 0 14 [(2, v0), (0, v1), zJ, (0, v3), (0, v4)] [(0, v3), (0, v4)] kd m (zqI kd q)
  refine EvX.icmp_ge (off := 20) (tgt := 34) (by decide +kernel) (by decide) (fun hc => ?_) (fun hc => ?_)
  · have h := h.1 hc
    refine EvX.blk (pc' := 37) [(.aload_n 0, 0, 0), (.iload_n 1, 0, 0), (.iload_n 3, 0, 0)] (by decide +kernel) trivial ?_
    show Ev (d + 1) M_Game_dropQuestion 0 0 37 [(2, v0), (0, v1), zJ, (0, v3), (0, v4)] [(0, v3), (0, v1), (2, v0)] kd m (zqI kd q)
    obtain ⟨ov, h⟩ := h
    obtain ⟨q1, hq, h⟩ := h
    refine EvX.callV (c := 1) (mc := 0) (ms := 0) (as := [(0, v1), (0, v3)]) (st := []) (by decide +kernel) l_Game_81 k_Game_setQuestions v_Game_setQuestions a_Game_setQuestions (by decide) (Nat.le_of_ble_eq_true rfl) rfl ov hq (fun r kd1 m3 hr => ?_)
    obtain ⟨rfl, hk, hr⟩ := hr
    subst kd1
    have h := h m3 hr
    show Ev (d + 1) M_Game_dropQuestion 0 0 40 [(2, v0), (0, v1), zJ, (0, v3), (0, v4)] [] kd m3 (zqI kd q)
    refine EvX.blk (pc' := 41) [(.iload_n 3, 0, 0)] (by decide +kernel) trivial ?_
    show Ev (d + 1) M_Game_dropQuestion 0 0 41 [(2, v0), (0, v1), zJ, (0, v3), (0, v4)] [(0, v3)] kd m3 (zqI kd q)
    exact EvX.ret (r := (0, v3)) (by decide +kernel) rfl ⟨_, rfl, rfl, h⟩
  · have h := h.2 hc
    refine EvX.blk (pc' := 25) [(.aload_n 0, 0, 0), (.iload_n 1, 0, 0), (.iload 4, 0, 0), (.iconst 1, 0, 0), (.iadd, 0, 0), (.iload 4, 0, 0)] (by decide +kernel) trivial ?_
    show Ev (d + 1) M_Game_dropQuestion 0 0 25 [(2, v0), (0, v1), zJ, (0, v3), (0, v4)] [(0, v4), (0, iw (v4 + 1)), (0, v1), (2, v0)] kd m (zqI kd q)
    obtain ⟨ov, h⟩ := h
    obtain ⟨q4, hq, h⟩ := h
    refine EvX.callV (c := 1) (mc := 0) (ms := 0) (as := [(0, v1), (0, iw (v4 + 1)), (0, v4)]) (st := []) (by decide +kernel) l_Game_77 k_Game_copyOver v_Game_copyOver a_Game_copyOver (by decide) (Nat.le_of_ble_eq_true rfl) rfl ov hq (fun r kd1 m6 hr => ?_)
    obtain ⟨rfl, hk, hr⟩ := hr
    subst kd1
    have h := h m6 hr
    show Ev (d + 1) M_Game_dropQuestion 0 0 28 [(2, v0), (0, v1), zJ, (0, v3), (0, v4)] [] kd m6 (zqI kd q)
    refine EvX.blk (pc' := 31) [(.iinc 4 1, 0, 0)] (by decide +kernel) trivial ?_
    show Ev (d + 1) M_Game_dropQuestion 0 0 31 [(2, v0), (0, v1), zJ, (0, v3), (0, iw (v4 + 1))] [] kd m6 (zqI kd q)
    refine EvX.goto (off := (-20)) (tgt := 11) (by decide +kernel) (by decide) ?_
    exact h
set_option maxRecDepth 20000 in
set_option maxHeartbeats 1000000 in
theorem T_Game_addQuestionLike_0 {d : Nat} {kd : ZK} {m : ZM} {q : Int → ZM → Prop} {v0 v1 v2 : Int} (h : (zobj kd v0 1 ∧ ∃ q1, CtI d M_Game_questionsOf [(2, v0), (0, v1)] kd m q1 ∧ ∀ x2 m3, q1 x2 m3 → (zobj kd v0 1 ∧ ∃ q4, CtV d M_Game_copyOver [(2, v0), (0, v1), (0, v2), (0, x2)] kd m3 q4 ∧ ∀ m6, q4 m6 → (zobj kd v0 1 ∧ ∃ q7, CtV d M_Game_setQuestions [(2, v0), (0, v1), (0, iw (x2 + 1))] kd m6 q7 ∧ ∀ m9, q7 m9 → q (iw (x2 + 1)) m9)))) : Ev (d + 1) M_Game_addQuestionLike 0 0 0 [(2, v0), (0, v1), (0, v2), zJ] [] kd m (zqI kd q) := by
  refine EvX.blk (pc' := 2) [(.aload_n 0, 0, 0), (.iload_n 1, 0, 0)] (by decide +kernel) trivial ?_
  show Ev (d + 1) M_Game_addQuestionLike 0 0 2 [(2, v0), (0, v1), (0, v2), zJ] [(0, v1), (2, v0)] kd m (zqI kd q)
  obtain ⟨ov, h⟩ := h
  obtain ⟨q1, hq, h⟩ := h
  refine EvX.callV (c := 1) (mc := 0) (ms := 0) (as := [(0, v1)]) (st := []) (by decide +kernel) l_Game_56 k_Game_questionsOf v_Game_questionsOf a_Game_questionsOf (by decide) (Nat.le_of_ble_eq_true rfl) rfl ov hq (fun r kd1 m3 hr => ?_)
  obtain ⟨x2, rfl, hk, hr⟩ := hr
  subst kd1
  have h := h x2 m3 hr
  show Ev (d + 1) M_Game_addQuestionLike 0 0 5 [(2, v0), (0, v1), (0, v2), zJ] [(0, x2)] kd m3 (zqI kd q)
  refine EvX.blk (pc' := 10) [(.istore_n 3, 0, 0), (.aload_n 0, 0, 0), (.iload_n 1, 0, 0), (.iload_n 2, 0, 0), (.iload_n 3, 0, 0)] (by decide +kernel) trivial ?_
  show Ev (d + 1) M_Game_addQuestionLike 0 0 10 [(2, v0), (0, v1), (0, v2), (0, x2)] [(0, x2), (0, v2), (0, v1), (2, v0)] kd m3 (zqI kd q)
  obtain ⟨ov, h⟩ := h
  obtain ⟨q4, hq, h⟩ := h
  refine EvX.callV (c := 1) (mc := 0) (ms := 0) (as := [(0, v1), (0, v2), (0, x2)]) (st := []) (by decide +kernel) l_Game_77 k_Game_copyOver v_Game_copyOver a_Game_copyOver (by decide) (Nat.le_of_ble_eq_true rfl) rfl ov hq (fun r kd1 m6 hr => ?_)
  obtain ⟨rfl, hk, hr⟩ := hr
  subst kd1
  have h := h m6 hr
  show Ev (d + 1) M_Game_addQuestionLike 0 0 13 [(2, v0), (0, v1), (0, v2), (0, x2)] [] kd m6 (zqI kd q)
  refine EvX.blk (pc' := 18) [(.aload_n 0, 0, 0), (.iload_n 1, 0, 0), (.iload_n 3, 0, 0), (.iconst 1, 0, 0), (.iadd, 0, 0)] (by decide +kernel) trivial ?_
  show Ev (d + 1) M_Game_addQuestionLike 0 0 18 [(2, v0), (0, v1), (0, v2), (0, x2)] [(0, iw (x2 + 1)), (0, v1), (2, v0)] kd m6 (zqI kd q)
  obtain ⟨ov, h⟩ := h
  obtain ⟨q7, hq, h⟩ := h
  refine EvX.callV (c := 1) (mc := 0) (ms := 0) (as := [(0, v1), (0, iw (x2 + 1))]) (st := []) (by decide +kernel) l_Game_81 k_Game_setQuestions v_Game_setQuestions a_Game_setQuestions (by decide) (Nat.le_of_ble_eq_true rfl) rfl ov hq (fun r kd1 m9 hr => ?_)
  obtain ⟨rfl, hk, hr⟩ := hr
  subst kd1
  have h := h m9 hr
  show Ev (d + 1) M_Game_addQuestionLike 0 0 21 [(2, v0), (0, v1), (0, v2), (0, x2)] [] kd m9 (zqI kd q)
  refine EvX.blk (pc' := 24) [(.iload_n 3, 0, 0), (.iconst 1, 0, 0), (.iadd, 0, 0)] (by decide +kernel) trivial ?_
  show Ev (d + 1) M_Game_addQuestionLike 0 0 24 [(2, v0), (0, v1), (0, v2), (0, x2)] [(0, iw (x2 + 1))] kd m9 (zqI kd q)
  exact EvX.ret (r := (0, iw (x2 + 1))) (by decide +kernel) rfl ⟨_, rfl, rfl, h⟩
theorem S_Game_addQuestionLike {d : Nat} {kd : ZK} {m : ZM} {q : Int → ZM → Prop} {v0 v1 v2 : Int} (h : (zobj kd v0 1 ∧ ∃ q1, CtI d M_Game_questionsOf [(2, v0), (0, v1)] kd m q1 ∧ ∀ x2 m3, q1 x2 m3 → (zobj kd v0 1 ∧ ∃ q4, CtV d M_Game_copyOver [(2, v0), (0, v1), (0, v2), (0, x2)] kd m3 q4 ∧ ∀ m6, q4 m6 → (zobj kd v0 1 ∧ ∃ q7, CtV d M_Game_setQuestions [(2, v0), (0, v1), (0, iw (x2 + 1))] kd m6 q7 ∧ ∀ m9, q7 m9 → q (iw (x2 + 1)) m9)))) : CtI (d + 1) M_Game_addQuestionLike [(2, v0), (0, v1), (0, v2)] kd m q :=
  Ct.start k_Game_addQuestionLike (Nat.le_of_ble_eq_true rfl) ⟨1, Or.inr (Or.inl ⟨rfl, rfl⟩)⟩ (T_Game_addQuestionLike_0 h)
set_option maxRecDepth 20000 in
set_option maxHeartbeats 1000000 in
theorem T_Game_setQuestions_0 {d : Nat} {kd : ZK} {m : ZM} {q : ZM → Prop} {v0 v1 v2 : Int} (h : ((v1 ≠ 0 → (zobj kd v0 1 ∧ q (zup m v0 1 v2))) ∧ (¬ v1 ≠ 0 → (zobj kd v0 1 ∧ q (zup m v0 0 v2))))) : Ev (d + 1) M_Game_setQuestions 0 0 0 [(2, v0), (0, v1), (0, v2)] [] kd m (zqV kd q) := by
  refine EvX.blk (pc' := 1) [(.iload_n 1, 0, 0)] (by decide +kernel) trivial ?_
  show Ev (d + 1) M_Game_setQuestions 0 0 1 [(2, v0), (0, v1), (0, v2)] [(0, v1)] kd m (zqV kd q)
  refine EvX.if_ne (off := 11) (tgt := 12) (by decide +kernel) (by decide) (fun hc => ?_) (fun hc => ?_)
  · have h := h.1 hc
    obtain ⟨o1, h⟩ := h
    refine EvX.blk (pc' := 17) [(.aload_n 0, 0, 0), (.iload_n 2, 0, 0), (.putfield 15, 1, 1)] (by decide +kernel) ⟨⟨g_Game_15, p_Game_15⟩, trivial⟩ ⟨rfl, o1, ?_⟩
    show Ev (d + 1) M_Game_setQuestions 0 0 17 [(2, v0), (0, v1), (0, v2)] [] kd (zup m v0 1 v2) (zqV kd q)
    exact EvX.ret (r := zJ) (by decide +kernel) rfl ⟨rfl, rfl, h⟩
  · have h := h.2 hc
    obtain ⟨o1, h⟩ := h
    refine EvX.blk (pc' := 9) [(.aload_n 0, 0, 0), (.iload_n 2, 0, 0), (.putfield 11, 1, 0)] (by decide +kernel) ⟨⟨g_Game_11, p_Game_11⟩, trivial⟩ ⟨rfl, o1, ?_⟩
    show Ev (d + 1) M_Game_setQuestions 0 0 9 [(2, v0), (0, v1), (0, v2)] [] kd (zup m v0 0 v2) (zqV kd q)
    refine EvX.goto (off := 8) (tgt := 17) (by decide +kernel) (by decide) ?_
    exact EvX.ret (r := zJ) (by decide +kernel) rfl ⟨rfl, rfl, h⟩
theorem S_Game_setQuestions {d : Nat} {kd : ZK} {m : ZM} {q : ZM → Prop} {v0 v1 v2 : Int} (h : ((v1 ≠ 0 → (zobj kd v0 1 ∧ q (zup m v0 1 v2))) ∧ (¬ v1 ≠ 0 → (zobj kd v0 1 ∧ q (zup m v0 0 v2))))) : CtV (d + 1) M_Game_setQuestions [(2, v0), (0, v1), (0, v2)] kd m q :=
  Ct.start k_Game_setQuestions (Nat.le_of_ble_eq_true rfl) ⟨0, Or.inl ⟨rfl, rfl⟩⟩ (T_Game_setQuestions_0 h)
set_option maxRecDepth 20000 in
set_option maxHeartbeats 1000000 in
theorem T_Game_copyOver_0 {d : Nat} {kd : ZK} {m : ZM} {q : ZM → Prop} {v0 v1 v2 v3 : Int} (h : (Ev (d + 1) M_Game_copyOver 0 0 3 [(2, v0), (0, v1), (0, v2), (0, v3), (0, 0), zJ, zJ, zJ, zJ] [] kd m (zqV kd q))) : Ev (d + 1) M_Game_copyOver 0 0 0 [(2, v0), (0, v1), (0, v2), (0, v3), zJ, zJ, zJ, zJ, zJ] [] kd m (zqV kd q) := by
  refine EvX.blk (pc' := 3) [(.iconst 0, 0, 0), (.istore 4, 0, 0)] (by decide +kernel) trivial ?_
  show Ev (d + 1) M_Game_copyOver 0 0 3 [(2, v0), (0, v1), (0, v2), (0, v3), (0, 0), zJ, zJ, zJ, zJ] [] kd m (zqV kd q)
  exact h
theorem S_Game_copyOver {d : Nat} {kd : ZK} {m : ZM} {q : ZM → Prop} {v0 v1 v2 v3 : Int} (h : (Ev (d + 1) M_Game_copyOver 0 0 3 [(2, v0), (0, v1), (0, v2), (0, v3), (0, 0), zJ, zJ, zJ, zJ] [] kd m (zqV kd q))) : CtV (d + 1) M_Game_copyOver [(2, v0), (0, v1), (0, v2), (0, v3)] kd m q :=
  Ct.start k_Game_copyOver (Nat.le_of_ble_eq_true rfl) ⟨0, Or.inl ⟨rfl, rfl⟩⟩ (T_Game_copyOver_0 h)
set_option maxRecDepth 20000 in
set_option maxHeartbeats 1000000 in
theorem T_Game_copyOver_3 {d : Nat} {kd : ZK} {m : ZM} {q : ZM → Prop} {v0 v1 v2 v3 v4 : Int} (h : (zobj kd v0 1 ∧ ∃ q1, CtI d M_Game_questionsOf [(2, v0), (0, iw (1 - v1))] kd m q1 ∧ ∀ x2 m3, q1 x2 m3 → ((x2 ≤ v4 → q m3) ∧ (¬ x2 ≤ v4 → (zobj kd v0 1 ∧ (∃ q4, CtI d M_Ap_cellOf [(0, v1), (0, v3), (0, v4)] kd m3 q4 ∧ ∀ x5 m6, q4 x5 m6 → (zobj kd v0 1 ∧ (∃ q7, CtI d M_Ap_cellOf [(0, v1), (0, v2), (0, v4)] kd m6 q7 ∧ ∀ x8 m9, q7 x8 m9 → (zIn kd (m6 v0 4) 0 x8 ∧ zIn kd (m3 v0 4) 0 x5 ∧ (Ev (d + 1) M_Game_copyOver 0 0 42 [(2, v0), (0, v1), (0, v2), (0, v3), (0, v4), (0, 0), zJ, zJ, zJ] [] kd (zup m9 (m3 v0 4) x5 (m9 (m6 v0 4) x8)) (zqV kd q))))))))))) : Ev (d + 1) M_Game_copyOver 0 0 3 [(2, v0), (0, v1), (0, v2), (0, v3), (0, v4), zJ, zJ, zJ, zJ] [] kd m (zqV kd q) := by
  refine EvX.blk (pc' := 9) [(.iload 4, 0, 0), (.aload_n 0, 0, 0), (.iconst 1, 0, 0), (.iload_n 1, 0, 0), (.isub, 0, 0)] (by decide +kernel) trivial ?_
  show Ev (d + 1) M_Game_copyOver 0 0 9 [(2, v0), (0, v1), (0, v2), (0, v3), (0, v4), zJ, zJ, zJ, zJ] [(0, iw (1 - v1)), (2, v0), (0, v4)] kd m (zqV kd q)
  obtain ⟨ov, h⟩ := h
  obtain ⟨q1, hq, h⟩ := h
  refine EvX.callV (c := 1) (mc := 0) (ms := 0) (as := [(0, iw (1 - v1))]) (st := [(0, v4)]) (by decide +kernel) l_Game_56 k_Game_questionsOf v_Game_questionsOf a_Game_questionsOf (by decide) (Nat.le_of_ble_eq_true rfl) rfl ov hq (fun r kd1 m3 hr => ?_)
  obtain ⟨x2, rfl, hk, hr⟩ := hr
  subst kd1
  have h := h x2 m3 hr
  show Ev (d + 1) M_Game_copyOver 0 0 12 [(2, v0), (0, v1), (0, v2), (0, v3), (0, v4), zJ, zJ, zJ, zJ] [(0, x2), (0, v4)] kd m3 (zqV kd q)
  refine EvX.icmp_ge (off := 127) (tgt := 139) (by decide +kernel) (by decide) (fun hc => ?_) (fun hc => ?_)
  · have h := h.1 hc
    exact EvX.ret (r := zJ) (by decide +kernel) rfl ⟨rfl, rfl, h⟩
  · have h := h.2 hc
    obtain ⟨o1, h⟩ := h
    refine EvX.blk (pc' := 23) [(.aload_n 0, 0, 0), (.getfield 24, 1, 4), (.iload_n 1, 0, 0), (.iload_n 3, 0, 0), (.iload 4, 0, 0)] (by decide +kernel) ⟨g_Game_24, trivial⟩ ⟨o1, ?_⟩
    show Ev (d + 1) M_Game_copyOver 0 0 23 [(2, v0), (0, v1), (0, v2), (0, v3), (0, v4), zJ, zJ, zJ, zJ] [(0, v4), (0, v3), (0, v1), (2, m3 v0 4)] kd m3 (zqV kd q)
    obtain ⟨q4, hq, h⟩ := h
    refine EvX.callS (mc := 0) (ms := 0) (as := [(0, v1), (0, v3), (0, v4)]) (st := [(2, m3 v0 4)]) (by decide +kernel) l_Game_40 k_Ap_cellOf s_Ap_cellOf a_Ap_cellOf (by decide) (Nat.le_of_ble_eq_true rfl) hq (fun r kd1 m6 hr => ?_)
    obtain ⟨x5, rfl, hk, hr⟩ := hr
    subst kd1
    have h := h x5 m6 hr
    show Ev (d + 1) M_Game_copyOver 0 0 26 [(2, v0), (0, v1), (0, v2), (0, v3), (0, v4), zJ, zJ, zJ, zJ] [(0, x5), (2, m3 v0 4)] kd m6 (zqV kd q)
    obtain ⟨o1, h⟩ := h
    refine EvX.blk (pc' := 34) [(.aload_n 0, 0, 0), (.getfield 24, 1, 4), (.iload_n 1, 0, 0), (.iload_n 2, 0, 0), (.iload 4, 0, 0)] (by decide +kernel) ⟨g_Game_24, trivial⟩ ⟨o1, ?_⟩
    show Ev (d + 1) M_Game_copyOver 0 0 34 [(2, v0), (0, v1), (0, v2), (0, v3), (0, v4), zJ, zJ, zJ, zJ] [(0, v4), (0, v2), (0, v1), (2, m6 v0 4), (0, x5), (2, m3 v0 4)] kd m6 (zqV kd q)
    obtain ⟨q7, hq, h⟩ := h
    refine EvX.callS (mc := 0) (ms := 0) (as := [(0, v1), (0, v2), (0, v4)]) (st := [(2, m6 v0 4), (0, x5), (2, m3 v0 4)]) (by decide +kernel) l_Game_40 k_Ap_cellOf s_Ap_cellOf a_Ap_cellOf (by decide) (Nat.le_of_ble_eq_true rfl) hq (fun r kd1 m9 hr => ?_)
    obtain ⟨x8, rfl, hk, hr⟩ := hr
    subst kd1
    have h := h x8 m9 hr
    show Ev (d + 1) M_Game_copyOver 0 0 37 [(2, v0), (0, v1), (0, v2), (0, v3), (0, v4), zJ, zJ, zJ, zJ] [(0, x8), (2, m6 v0 4), (0, x5), (2, m3 v0 4)] kd m9 (zqV kd q)
    obtain ⟨o1, o2, h⟩ := h
    refine EvX.blk (pc' := 42) [(.iaload, 0, 0), (.iastore, 0, 0), (.iconst 0, 0, 0), (.istore 5, 0, 0)] (by decide +kernel) trivial ⟨o1, o2, ?_⟩
    show Ev (d + 1) M_Game_copyOver 0 0 42 [(2, v0), (0, v1), (0, v2), (0, v3), (0, v4), (0, 0), zJ, zJ, zJ] [] kd (zup m9 (m3 v0 4) x5 (m9 (m6 v0 4) x8)) (zqV kd q)
    exact h
set_option maxRecDepth 20000 in
set_option maxHeartbeats 1000000 in
theorem T_Game_copyOver_42 {d : Nat} {kd : ZK} {m : ZM} {q : ZM → Prop} {v0 v1 v2 v3 v4 v5 : Int} (h : (zobj kd v0 1 ∧ ∃ q1, CtI d M_Game_answersOf [(2, v0), (0, v1)] kd m q1 ∧ ∀ x2 m3, q1 x2 m3 → ((x2 ≤ v5 → (Ev (d + 1) M_Game_copyOver 0 0 3 [(2, v0), (0, v1), (0, v2), (0, v3), (0, iw (v4 + 1)), zJ, zJ, zJ, zJ] [] kd m3 (zqV kd q))) ∧ (¬ x2 ≤ v5 → (Ev (d + 1) M_Game_copyOver 0 0 55 [(2, v0), (0, v1), (0, v2), (0, v3), (0, v4), (0, v5), (0, 0), zJ, zJ] [] kd m3 (zqV kd q)))))) : Ev (d + 1) M_Game_copyOver 0 0 42 [(2, v0), (0, v1), (0, v2), (0, v3), (0, v4), (0, v5), zJ, zJ, zJ] [] kd m (zqV kd q) := by
  refine EvX.blk (pc' := 46) [(.iload 5, 0, 0), (.aload_n 0, 0, 0), (.iload_n 1, 0, 0)] (by decide +kernel) trivial ?_
  show Ev (d + 1) M_Game_copyOver 0 0 46 [(2, v0), (0, v1), (0, v2), (0, v3), (0, v4), (0, v5), zJ, zJ, zJ] [(0, v1), (2, v0), (0, v5)] kd m (zqV kd q)
  obtain ⟨ov, h⟩ := h
  obtain ⟨q1, hq, h⟩ := h
  refine EvX.callV (c := 1) (mc := 0) (ms := 0) (as := [(0, v1)]) (st := [(0, v5)]) (by decide +kernel) l_Game_60 k_Game_answersOf v_Game_answersOf a_Game_answersOf (by decide) (Nat.le_of_ble_eq_true rfl) rfl ov hq (fun r kd1 m3 hr => ?_)
  obtain ⟨x2, rfl, hk, hr⟩ := hr
  subst kd1
  have h := h x2 m3 hr
  show Ev (d + 1) M_Game_copyOver 0 0 49 [(2, v0), (0, v1), (0, v2), (0, v3), (0, v4), (0, v5), zJ, zJ, zJ] [(0, x2), (0, v5)] kd m3 (zqV kd q)
  refine EvX.icmp_ge (off := 84) (tgt := 133) (by decide +kernel) (by decide) (fun hc => ?_) (fun hc => ?_)
  · have h := h.1 hc
    refine EvX.blk (pc' := 136) [(.iinc 4 1, 0, 0)] (by decide +kernel) trivial ?_
    show Ev (d + 1) M_Game_copyOver 0 0 136 [(2, v0), (0, v1), (0, v2), (0, v3), (0, iw (v4 + 1)), (0, v5), zJ, zJ, zJ] [] kd m3 (zqV kd q)
    refine EvX.goto (off := (-133)) (tgt := 3) (by decide +kernel) (by decide) ?_
    exact EvX.weak (ls2 := [(2, v0), (0, v1), (0, v2), (0, v3), (0, iw (v4 + 1)), zJ, zJ, zJ, zJ]) (zwk_of ⟨Or.inr rfl, Or.inr rfl, Or.inr rfl, Or.inr rfl, Or.inr rfl, Or.inl rfl, Or.inl rfl, Or.inl rfl, Or.inl rfl, trivial⟩) h
  · have h := h.2 hc
    refine EvX.blk (pc' := 55) [(.iconst 0, 0, 0), (.istore 6, 0, 0)] (by decide +kernel) trivial ?_
    show Ev (d + 1) M_Game_copyOver 0 0 55 [(2, v0), (0, v1), (0, v2), (0, v3), (0, v4), (0, v5), (0, 0), zJ, zJ] [] kd m3 (zqV kd q)
    exact h
set_option maxRecDepth 20000 in
set_option maxHeartbeats 1000000 in
theorem T_Game_copyOver_55 {d : Nat} {kd : ZK} {m : ZM} {q : ZM → Prop} {v0 v1 v2 v3 v4 v5 v6 : Int} (h : (zobj kd v0 1 ∧ ∃ q1, CtI d M_Game_answersOf [(2, v0), (0, iw (1 - v1))] kd m q1 ∧ ∀ x2 m3, q1 x2 m3 → ((x2 ≤ v6 → (Ev (d + 1) M_Game_copyOver 0 0 42 [(2, v0), (0, v1), (0, v2), (0, v3), (0, v4), (0, iw (v5 + 1)), zJ, zJ, zJ] [] kd m3 (zqV kd q))) ∧ (¬ x2 ≤ v6 → (∃ q4, CtI d M_Ap_spotOf [(0, v1), (0, v3), (0, v4), (0, v5), (0, v6)] kd m3 q4 ∧ ∀ x5 m6, q4 x5 m6 → (∃ q7, CtI d M_Ap_spotOf [(0, v1), (0, v2), (0, v4), (0, v5), (0, v6)] kd m6 q7 ∧ ∀ x8 m9, q7 x8 m9 → (zobj kd v0 1 ∧ zobj kd v0 1 ∧ zIn kd (m9 v0 5) 0 x8 ∧ zIn kd (m9 v0 5) 0 x5 ∧ zobj kd v0 1 ∧ zobj kd v0 1 ∧ zIn kd ((zup m9 (m9 v0 5) x5 (m9 (m9 v0 5) x8)) v0 6) 0 x8 ∧ zIn kd ((zup m9 (m9 v0 5) x5 (m9 (m9 v0 5) x8)) v0 6) 0 x5 ∧ (Ev (d + 1) M_Game_copyOver 0 0 55 [(2, v0), (0, v1), (0, v2), (0, v3), (0, v4), (0, v5), (0, iw (v6 + 1)), zJ, zJ] [] kd (zup (zup m9 (m9 v0 5) x5 (m9 (m9 v0 5) x8)) ((zup m9 (m9 v0 5) x5 (m9 (m9 v0 5) x8)) v0 6) x5 ((zup m9 (m9 v0 5) x5 (m9 (m9 v0 5) x8)) ((zup m9 (m9 v0 5) x5 (m9 (m9 v0 5) x8)) v0 6) x8)) (zqV kd q))))))))) : Ev (d + 1) M_Game_copyOver 0 0 55 [(2, v0), (0, v1), (0, v2), (0, v3), (0, v4), (0, v5), (0, v6), zJ, zJ] [] kd m (zqV kd q) := by
  refine EvX.blk (pc' := 61) [(.iload 6, 0, 0), (.aload_n 0, 0, 0), (.iconst 1, 0, 0), (.iload_n 1, 0, 0), (.isub, 0, 0)] (by decide +kernel) trivial ?_
  show Ev (d + 1) M_Game_copyOver 0 0 61 [(2, v0), (0, v1), (0, v2), (0, v3), (0, v4), (0, v5), (0, v6), zJ, zJ] [(0, iw (1 - v1)), (2, v0), (0, v6)] kd m (zqV kd q)
  obtain ⟨ov, h⟩ := h
  obtain ⟨q1, hq, h⟩ := h
  refine EvX.callV (c := 1) (mc := 0) (ms := 0) (as := [(0, iw (1 - v1))]) (st := [(0, v6)]) (by decide +kernel) l_Game_60 k_Game_answersOf v_Game_answersOf a_Game_answersOf (by decide) (Nat.le_of_ble_eq_true rfl) rfl ov hq (fun r kd1 m3 hr => ?_)
  obtain ⟨x2, rfl, hk, hr⟩ := hr
  subst kd1
  have h := h x2 m3 hr
  show Ev (d + 1) M_Game_copyOver 0 0 64 [(2, v0), (0, v1), (0, v2), (0, v3), (0, v4), (0, v5), (0, v6), zJ, zJ] [(0, x2), (0, v6)] kd m3 (zqV kd q)
  refine EvX.icmp_ge (off := 63) (tgt := 127) (by decide +kernel) (by decide) (fun hc => ?_) (fun hc => ?_)
  · have h := h.1 hc
    refine EvX.blk (pc' := 130) [(.iinc 5 1, 0, 0)] (by decide +kernel) trivial ?_
    show Ev (d + 1) M_Game_copyOver 0 0 130 [(2, v0), (0, v1), (0, v2), (0, v3), (0, v4), (0, iw (v5 + 1)), (0, v6), zJ, zJ] [] kd m3 (zqV kd q)
    refine EvX.goto (off := (-88)) (tgt := 42) (by decide +kernel) (by decide) ?_
    exact EvX.weak (ls2 := [(2, v0), (0, v1), (0, v2), (0, v3), (0, v4), (0, iw (v5 + 1)), zJ, zJ, zJ]) (zwk_of ⟨Or.inr rfl, Or.inr rfl, Or.inr rfl, Or.inr rfl, Or.inr rfl, Or.inr rfl, Or.inl rfl, Or.inl rfl, Or.inl rfl, trivial⟩) h
  · have h := h.2 hc
    refine EvX.blk (pc' := 75) [(.iload_n 1, 0, 0), (.iload_n 3, 0, 0), (.iload 4, 0, 0), (.iload 5, 0, 0), (.iload 6, 0, 0)] (by decide +kernel) trivial ?_
    show Ev (d + 1) M_Game_copyOver 0 0 75 [(2, v0), (0, v1), (0, v2), (0, v3), (0, v4), (0, v5), (0, v6), zJ, zJ] [(0, v6), (0, v5), (0, v4), (0, v3), (0, v1)] kd m3 (zqV kd q)
    obtain ⟨q4, hq, h⟩ := h
    refine EvX.callS (mc := 0) (ms := 0) (as := [(0, v1), (0, v3), (0, v4), (0, v5), (0, v6)]) (st := []) (by decide +kernel) l_Game_48 k_Ap_spotOf s_Ap_spotOf a_Ap_spotOf (by decide) (Nat.le_of_ble_eq_true rfl) hq (fun r kd1 m6 hr => ?_)
    obtain ⟨x5, rfl, hk, hr⟩ := hr
    subst kd1
    have h := h x5 m6 hr
    show Ev (d + 1) M_Game_copyOver 0 0 78 [(2, v0), (0, v1), (0, v2), (0, v3), (0, v4), (0, v5), (0, v6), zJ, zJ] [(0, x5)] kd m6 (zqV kd q)
    refine EvX.blk (pc' := 88) [(.istore 7, 0, 0), (.iload_n 1, 0, 0), (.iload_n 2, 0, 0), (.iload 4, 0, 0), (.iload 5, 0, 0), (.iload 6, 0, 0)] (by decide +kernel) trivial ?_
    show Ev (d + 1) M_Game_copyOver 0 0 88 [(2, v0), (0, v1), (0, v2), (0, v3), (0, v4), (0, v5), (0, v6), (0, x5), zJ] [(0, v6), (0, v5), (0, v4), (0, v2), (0, v1)] kd m6 (zqV kd q)
    obtain ⟨q7, hq, h⟩ := h
    refine EvX.callS (mc := 0) (ms := 0) (as := [(0, v1), (0, v2), (0, v4), (0, v5), (0, v6)]) (st := []) (by decide +kernel) l_Game_48 k_Ap_spotOf s_Ap_spotOf a_Ap_spotOf (by decide) (Nat.le_of_ble_eq_true rfl) hq (fun r kd1 m9 hr => ?_)
    obtain ⟨x8, rfl, hk, hr⟩ := hr
    subst kd1
    have h := h x8 m9 hr
    show Ev (d + 1) M_Game_copyOver 0 0 91 [(2, v0), (0, v1), (0, v2), (0, v3), (0, v4), (0, v5), (0, v6), (0, x5), zJ] [(0, x8)] kd m9 (zqV kd q)
    obtain ⟨o1, o2, o3, o4, o5, o6, o7, o8, h⟩ := h
    refine EvX.blk (pc' := 124) [(.istore 8, 0, 0), (.aload_n 0, 0, 0), (.getfield 28, 1, 5), (.iload 7, 0, 0), (.aload_n 0, 0, 0), (.getfield 28, 1, 5), (.iload 8, 0, 0), (.iaload, 0, 0), (.iastore, 0, 0), (.aload_n 0, 0, 0), (.getfield 31, 1, 6), (.iload 7, 0, 0), (.aload_n 0, 0, 0), (.getfield 31, 1, 6), (.iload 8, 0, 0), (.iaload, 0, 0), (.iastore, 0, 0), (.iinc 6 1, 0, 0)] (by decide +kernel) ⟨g_Game_28, g_Game_28, g_Game_31, g_Game_31, trivial⟩ ⟨o1, o2, o3, o4, o5, o6, o7, o8, ?_⟩
    show Ev (d + 1) M_Game_copyOver 0 0 124 [(2, v0), (0, v1), (0, v2), (0, v3), (0, v4), (0, v5), (0, iw (v6 + 1)), (0, x5), (0, x8)] [] kd (zup (zup m9 (m9 v0 5) x5 (m9 (m9 v0 5) x8)) ((zup m9 (m9 v0 5) x5 (m9 (m9 v0 5) x8)) v0 6) x5 ((zup m9 (m9 v0 5) x5 (m9 (m9 v0 5) x8)) ((zup m9 (m9 v0 5) x5 (m9 (m9 v0 5) x8)) v0 6) x8)) (zqV kd q)
    refine EvX.goto (off := (-69)) (tgt := 55) (by decide +kernel) (by decide) ?_
    exact EvX.weak (ls2 := [(2, v0), (0, v1), (0, v2), (0, v3), (0, v4), (0, v5), (0, iw (v6 + 1)), zJ, zJ]) (zwk_of ⟨Or.inr rfl, Or.inr rfl, Or.inr rfl, Or.inr rfl, Or.inr rfl, Or.inr rfl, Or.inr rfl, Or.inl rfl, Or.inl rfl, trivial⟩) h
set_option maxRecDepth 20000 in
set_option maxHeartbeats 1000000 in
theorem T_Game_drawAll_0 {d : Nat} {kd : ZK} {m : ZM} {q : ZM → Prop} {v0 v1 : Int} (h : (Ev (d + 1) M_Game_drawAll 0 0 4 [(2, v0), zJ, (0, v1), (0, 0), zJ, zJ, zJ] [] kd m (zqV kd q))) : Ev (d + 1) M_Game_drawAll 0 0 0 [(2, v0), (0, v1), zJ, zJ, zJ, zJ, zJ] [] kd m (zqV kd q) := by
  refine EvX.blk (pc' := 4) [(.iload_n 1, 0, 0), (.istore_n 2, 0, 0), (.iconst 0, 0, 0), (.istore_n 3, 0, 0)] (by decide +kernel) trivial ?_
  show Ev (d + 1) M_Game_drawAll 0 0 4 [(2, v0), (0, v1), (0, v1), (0, 0), zJ, zJ, zJ] [] kd m (zqV kd q)
  exact EvX.weak (ls2 := [(2, v0), zJ, (0, v1), (0, 0), zJ, zJ, zJ]) (zwk_of ⟨Or.inr rfl, Or.inl rfl, Or.inr rfl, Or.inr rfl, Or.inl rfl, Or.inl rfl, Or.inl rfl, trivial⟩) h
theorem S_Game_drawAll {d : Nat} {kd : ZK} {m : ZM} {q : ZM → Prop} {v0 v1 : Int} (h : (Ev (d + 1) M_Game_drawAll 0 0 4 [(2, v0), zJ, (0, v1), (0, 0), zJ, zJ, zJ] [] kd m (zqV kd q))) : CtV (d + 1) M_Game_drawAll [(2, v0), (0, v1)] kd m q :=
  Ct.start k_Game_drawAll (Nat.le_of_ble_eq_true rfl) ⟨0, Or.inl ⟨rfl, rfl⟩⟩ (T_Game_drawAll_0 h)
set_option maxRecDepth 20000 in
set_option maxHeartbeats 1000000 in
theorem T_Game_drawAll_4 {d : Nat} {kd : ZK} {m : ZM} {q : ZM → Prop} {v0 v2 v3 : Int} (h : (zobj kd v0 1 ∧ (((m v0 0) ≤ v3 → q m) ∧ (¬ (m v0 0) ≤ v3 → (Ev (d + 1) M_Game_drawAll 0 0 15 [(2, v0), zJ, (0, v2), (0, v3), (0, 0), zJ, zJ] [] kd m (zqV kd q)))))) : Ev (d + 1) M_Game_drawAll 0 0 4 [(2, v0), zJ, (0, v2), (0, v3), zJ, zJ, zJ] [] kd m (zqV kd q) := by
  obtain ⟨o1, h⟩ := h
  refine EvX.blk (pc' := 9) [(.iload_n 3, 0, 0), (.aload_n 0, 0, 0), (.getfield 11, 1, 0)] (by decide +kernel) ⟨g_Game_11, trivial⟩ ⟨o1, ?_⟩
  show Ev (d + 1) M_Game_drawAll 0 0 9 [(2, v0), zJ, (0, v2), (0, v3), zJ, zJ, zJ] [(0, m v0 0), (0, v3)] kd m (zqV kd q)
  refine EvX.icmp_ge (off := 115) (tgt := 124) (by decide +kernel) (by decide) (fun hc => ?_) (fun hc => ?_)
  · have h := h.1 hc
    exact EvX.ret (r := zJ) (by decide +kernel) rfl ⟨rfl, rfl, h⟩
  · have h := h.2 hc
    refine EvX.blk (pc' := 15) [(.iconst 0, 0, 0), (.istore 4, 0, 0)] (by decide +kernel) trivial ?_
    show Ev (d + 1) M_Game_drawAll 0 0 15 [(2, v0), zJ, (0, v2), (0, v3), (0, 0), zJ, zJ] [] kd m (zqV kd q)
    exact h
set_option maxRecDepth 20000 in
set_option maxHeartbeats 1000000 in
theorem T_Game_drawAll_15 {d : Nat} {kd : ZK} {m : ZM} {q : ZM → Prop} {v0 v2 v3 v4 : Int} (h : (zobj kd v0 1 ∧ (((m v0 1) ≤ v4 → (Ev (d + 1) M_Game_drawAll 0 0 4 [(2, v0), zJ, (0, v2), (0, iw (v3 + 1)), zJ, zJ, zJ] [] kd m (zqV kd q))) ∧ (¬ (m v0 1) ≤ v4 → (∃ q1, CtI d M_Game_nextState [(0, v2)] kd m q1 ∧ ∀ x2 m3, q1 x2 m3 → (zobj kd v0 1 ∧ (∃ q4, CtI d M_Ap_cellOf [(0, 0), (0, v3), (0, v4)] kd m3 q4 ∧ ∀ x5 m6, q4 x5 m6 → (zIn kd (m3 v0 4) 0 x5 ∧ (Ev (d + 1) M_Game_drawAll 0 0 52 [(2, v0), zJ, (0, x2), (0, v3), (0, v4), (0, 0), zJ] [] kd (zup m6 (m3 v0 4) x5 (iw ((Int.tmod (zushr x2 16) 4) + 1))) (zqV kd q)))))))))) : Ev (d + 1) M_Game_drawAll 0 0 15 [(2, v0), zJ, (0, v2), (0, v3), (0, v4), zJ, zJ] [] kd m (zqV kd q) := by
  obtain ⟨o1, h⟩ := h
  refine EvX.blk (pc' := 21) [(.iload 4, 0, 0), (.aload_n 0, 0, 0), (.getfield 15, 1, 1)] (by decide +kernel) ⟨g_Game_15, trivial⟩ ⟨o1, ?_⟩
  show Ev (d + 1) M_Game_drawAll 0 0 21 [(2, v0), zJ, (0, v2), (0, v3), (0, v4), zJ, zJ] [(0, m v0 1), (0, v4)] kd m (zqV kd q)
  refine EvX.icmp_ge (off := 97) (tgt := 118) (by decide +kernel) (by decide) (fun hc => ?_) (fun hc => ?_)
  · have h := h.1 hc
    refine EvX.blk (pc' := 121) [(.iinc 3 1, 0, 0)] (by decide +kernel) trivial ?_
    show Ev (d + 1) M_Game_drawAll 0 0 121 [(2, v0), zJ, (0, v2), (0, iw (v3 + 1)), (0, v4), zJ, zJ] [] kd m (zqV kd q)
    refine EvX.goto (off := (-117)) (tgt := 4) (by decide +kernel) (by decide) ?_
    exact EvX.weak (ls2 := [(2, v0), zJ, (0, v2), (0, iw (v3 + 1)), zJ, zJ, zJ]) (zwk_of ⟨Or.inr rfl, Or.inl rfl, Or.inr rfl, Or.inr rfl, Or.inl rfl, Or.inl rfl, Or.inl rfl, trivial⟩) h
  · have h := h.2 hc
    refine EvX.blk (pc' := 25) [(.iload_n 2, 0, 0)] (by decide +kernel) trivial ?_
    show Ev (d + 1) M_Game_drawAll 0 0 25 [(2, v0), zJ, (0, v2), (0, v3), (0, v4), zJ, zJ] [(0, v2)] kd m (zqV kd q)
    obtain ⟨q1, hq, h⟩ := h
    refine EvX.callS (mc := 0) (ms := 0) (as := [(0, v2)]) (st := []) (by decide +kernel) l_Game_85 k_Game_nextState s_Game_nextState a_Game_nextState (by decide) (Nat.le_of_ble_eq_true rfl) hq (fun r kd1 m3 hr => ?_)
    obtain ⟨x2, rfl, hk, hr⟩ := hr
    subst kd1
    have h := h x2 m3 hr
    show Ev (d + 1) M_Game_drawAll 0 0 28 [(2, v0), zJ, (0, v2), (0, v3), (0, v4), zJ, zJ] [(0, x2)] kd m3 (zqV kd q)
    obtain ⟨o1, h⟩ := h
    refine EvX.blk (pc' := 37) [(.istore_n 2, 0, 0), (.aload_n 0, 0, 0), (.getfield 24, 1, 4), (.iconst 0, 0, 0), (.iload_n 3, 0, 0), (.iload 4, 0, 0)] (by decide +kernel) ⟨g_Game_24, trivial⟩ ⟨o1, ?_⟩
    show Ev (d + 1) M_Game_drawAll 0 0 37 [(2, v0), zJ, (0, x2), (0, v3), (0, v4), zJ, zJ] [(0, v4), (0, v3), (0, 0), (2, m3 v0 4)] kd m3 (zqV kd q)
    obtain ⟨q4, hq, h⟩ := h
    refine EvX.callS (mc := 0) (ms := 0) (as := [(0, 0), (0, v3), (0, v4)]) (st := [(2, m3 v0 4)]) (by decide +kernel) l_Game_40 k_Ap_cellOf s_Ap_cellOf a_Ap_cellOf (by decide) (Nat.le_of_ble_eq_true rfl) hq (fun r kd1 m6 hr => ?_)
    obtain ⟨x5, rfl, hk, hr⟩ := hr
    subst kd1
    have h := h x5 m6 hr
    show Ev (d + 1) M_Game_drawAll 0 0 40 [(2, v0), zJ, (0, x2), (0, v3), (0, v4), zJ, zJ] [(0, x5), (2, m3 v0 4)] kd m6 (zqV kd q)
    obtain ⟨o1, h⟩ := h
    refine EvX.blk (pc' := 52) [(.iload_n 2, 0, 0), (.bipush 16, 0, 0), (.iushr, 0, 0), (.iconst 4, 0, 0), (.irem, 0, 0), (.iconst 1, 0, 0), (.iadd, 0, 0), (.iastore, 0, 0), (.iconst 0, 0, 0), (.istore 5, 0, 0)] (by decide +kernel) trivial ⟨by decide, o1, ?_⟩
    show Ev (d + 1) M_Game_drawAll 0 0 52 [(2, v0), zJ, (0, x2), (0, v3), (0, v4), (0, 0), zJ] [] kd (zup m6 (m3 v0 4) x5 (iw ((Int.tmod (zushr x2 16) 4) + 1))) (zqV kd q)
    exact h
set_option maxRecDepth 20000 in
set_option maxHeartbeats 1000000 in
theorem T_Game_drawAll_52 {d : Nat} {kd : ZK} {m : ZM} {q : ZM → Prop} {v0 v2 v3 v4 v5 : Int} (h : (zobj kd v0 1 ∧ (((m v0 2) ≤ v5 → (Ev (d + 1) M_Game_drawAll 0 0 15 [(2, v0), zJ, (0, v2), (0, v3), (0, iw (v4 + 1)), zJ, zJ] [] kd m (zqV kd q))) ∧ (¬ (m v0 2) ≤ v5 → (Ev (d + 1) M_Game_drawAll 0 0 64 [(2, v0), zJ, (0, v2), (0, v3), (0, v4), (0, v5), (0, 0)] [] kd m (zqV kd q)))))) : Ev (d + 1) M_Game_drawAll 0 0 52 [(2, v0), zJ, (0, v2), (0, v3), (0, v4), (0, v5), zJ] [] kd m (zqV kd q) := by
  obtain ⟨o1, h⟩ := h
  refine EvX.blk (pc' := 58) [(.iload 5, 0, 0), (.aload_n 0, 0, 0), (.getfield 18, 1, 2)] (by decide +kernel) ⟨g_Game_18, trivial⟩ ⟨o1, ?_⟩
  show Ev (d + 1) M_Game_drawAll 0 0 58 [(2, v0), zJ, (0, v2), (0, v3), (0, v4), (0, v5), zJ] [(0, m v0 2), (0, v5)] kd m (zqV kd q)
  refine EvX.icmp_ge (off := 54) (tgt := 112) (by decide +kernel) (by decide) (fun hc => ?_) (fun hc => ?_)
  · have h := h.1 hc
    refine EvX.blk (pc' := 115) [(.iinc 4 1, 0, 0)] (by decide +kernel) trivial ?_
    show Ev (d + 1) M_Game_drawAll 0 0 115 [(2, v0), zJ, (0, v2), (0, v3), (0, iw (v4 + 1)), (0, v5), zJ] [] kd m (zqV kd q)
    refine EvX.goto (off := (-100)) (tgt := 15) (by decide +kernel) (by decide) ?_
    exact EvX.weak (ls2 := [(2, v0), zJ, (0, v2), (0, v3), (0, iw (v4 + 1)), zJ, zJ]) (zwk_of ⟨Or.inr rfl, Or.inl rfl, Or.inr rfl, Or.inr rfl, Or.inr rfl, Or.inl rfl, Or.inl rfl, trivial⟩) h
  · have h := h.2 hc
    refine EvX.blk (pc' := 64) [(.iconst 0, 0, 0), (.istore 6, 0, 0)] (by decide +kernel) trivial ?_
    show Ev (d + 1) M_Game_drawAll 0 0 64 [(2, v0), zJ, (0, v2), (0, v3), (0, v4), (0, v5), (0, 0)] [] kd m (zqV kd q)
    exact h
set_option maxRecDepth 20000 in
set_option maxHeartbeats 1000000 in
theorem T_Game_drawAll_64 {d : Nat} {kd : ZK} {m : ZM} {q : ZM → Prop} {v0 v2 v3 v4 v5 v6 : Int} (h : (zobj kd v0 1 ∧ (((m v0 3) ≤ v6 → (Ev (d + 1) M_Game_drawAll 0 0 52 [(2, v0), zJ, (0, v2), (0, v3), (0, v4), (0, iw (v5 + 1)), zJ] [] kd m (zqV kd q))) ∧ (¬ (m v0 3) ≤ v6 → (∃ q1, CtI d M_Game_nextState [(0, v2)] kd m q1 ∧ ∀ x2 m3, q1 x2 m3 → (zobj kd v0 1 ∧ (∃ q4, CtI d M_Ap_spotOf [(0, 0), (0, v3), (0, v4), (0, v5), (0, v6)] kd m3 q4 ∧ ∀ x5 m6, q4 x5 m6 → (zIn kd (m3 v0 5) 0 x5 ∧ (Ev (d + 1) M_Game_drawAll 0 0 64 [(2, v0), zJ, (0, x2), (0, v3), (0, v4), (0, v5), (0, iw (v6 + 1))] [] kd (zup m6 (m3 v0 5) x5 (Int.tmod (zushr x2 16) 2)) (zqV kd q)))))))))) : Ev (d + 1) M_Game_drawAll 0 0 64 [(2, v0), zJ, (0, v2), (0, v3), (0, v4), (0, v5), (0, v6)] [] kd m (zqV kd q) := by
  obtain ⟨o1, h⟩ := h
  refine EvX.blk (pc' := 70) [(.iload 6, 0, 0), (.aload_n 0, 0, 0), (.getfield 21, 1, 3)] (by decide +kernel) ⟨g_Game_21, trivial⟩ ⟨o1, ?_⟩
  show Ev (d + 1) M_Game_drawAll 0 0 70 [(2, v0), zJ, (0, v2), (0, v3), (0, v4), (0, v5), (0, v6)] [(0, m v0 3), (0, v6)] kd m (zqV kd q)
  refine EvX.icmp_ge (off := 36) (tgt := 106) (by decide +kernel) (by decide) (fun hc => ?_) (fun hc => ?_)
  · have h := h.1 hc
    refine EvX.blk (pc' := 109) [(.iinc 5 1, 0, 0)] (by decide +kernel) trivial ?_
    show Ev (d + 1) M_Game_drawAll 0 0 109 [(2, v0), zJ, (0, v2), (0, v3), (0, v4), (0, iw (v5 + 1)), (0, v6)] [] kd m (zqV kd q)
    refine EvX.goto (off := (-57)) (tgt := 52) (by decide +kernel) (by decide) ?_
    exact EvX.weak (ls2 := [(2, v0), zJ, (0, v2), (0, v3), (0, v4), (0, iw (v5 + 1)), zJ]) (zwk_of ⟨Or.inr rfl, Or.inl rfl, Or.inr rfl, Or.inr rfl, Or.inr rfl, Or.inr rfl, Or.inl rfl, trivial⟩) h
  · have h := h.2 hc
    refine EvX.blk (pc' := 74) [(.iload_n 2, 0, 0)] (by decide +kernel) trivial ?_
    show Ev (d + 1) M_Game_drawAll 0 0 74 [(2, v0), zJ, (0, v2), (0, v3), (0, v4), (0, v5), (0, v6)] [(0, v2)] kd m (zqV kd q)
    obtain ⟨q1, hq, h⟩ := h
    refine EvX.callS (mc := 0) (ms := 0) (as := [(0, v2)]) (st := []) (by decide +kernel) l_Game_85 k_Game_nextState s_Game_nextState a_Game_nextState (by decide) (Nat.le_of_ble_eq_true rfl) hq (fun r kd1 m3 hr => ?_)
    obtain ⟨x2, rfl, hk, hr⟩ := hr
    subst kd1
    have h := h x2 m3 hr
    show Ev (d + 1) M_Game_drawAll 0 0 77 [(2, v0), zJ, (0, v2), (0, v3), (0, v4), (0, v5), (0, v6)] [(0, x2)] kd m3 (zqV kd q)
    obtain ⟨o1, h⟩ := h
    refine EvX.blk (pc' := 90) [(.istore_n 2, 0, 0), (.aload_n 0, 0, 0), (.getfield 28, 1, 5), (.iconst 0, 0, 0), (.iload_n 3, 0, 0), (.iload 4, 0, 0), (.iload 5, 0, 0), (.iload 6, 0, 0)] (by decide +kernel) ⟨g_Game_28, trivial⟩ ⟨o1, ?_⟩
    show Ev (d + 1) M_Game_drawAll 0 0 90 [(2, v0), zJ, (0, x2), (0, v3), (0, v4), (0, v5), (0, v6)] [(0, v6), (0, v5), (0, v4), (0, v3), (0, 0), (2, m3 v0 5)] kd m3 (zqV kd q)
    obtain ⟨q4, hq, h⟩ := h
    refine EvX.callS (mc := 0) (ms := 0) (as := [(0, 0), (0, v3), (0, v4), (0, v5), (0, v6)]) (st := [(2, m3 v0 5)]) (by decide +kernel) l_Game_48 k_Ap_spotOf s_Ap_spotOf a_Ap_spotOf (by decide) (Nat.le_of_ble_eq_true rfl) hq (fun r kd1 m6 hr => ?_)
    obtain ⟨x5, rfl, hk, hr⟩ := hr
    subst kd1
    have h := h x5 m6 hr
    show Ev (d + 1) M_Game_drawAll 0 0 93 [(2, v0), zJ, (0, x2), (0, v3), (0, v4), (0, v5), (0, v6)] [(0, x5), (2, m3 v0 5)] kd m6 (zqV kd q)
    obtain ⟨o1, h⟩ := h
    refine EvX.blk (pc' := 103) [(.iload_n 2, 0, 0), (.bipush 16, 0, 0), (.iushr, 0, 0), (.iconst 2, 0, 0), (.irem, 0, 0), (.iastore, 0, 0), (.iinc 6 1, 0, 0)] (by decide +kernel) trivial ⟨by decide, o1, ?_⟩
    show Ev (d + 1) M_Game_drawAll 0 0 103 [(2, v0), zJ, (0, x2), (0, v3), (0, v4), (0, v5), (0, iw (v6 + 1))] [] kd (zup m6 (m3 v0 5) x5 (Int.tmod (zushr x2 16) 2)) (zqV kd q)
    refine EvX.goto (off := (-39)) (tgt := 64) (by decide +kernel) (by decide) ?_
    exact h
set_option maxRecDepth 20000 in
set_option maxHeartbeats 1000000 in
theorem T_Game_nextState_0 {d : Nat} {kd : ZK} {m : ZM} {q : Int → ZM → Prop} {v0 : Int} (h : q (iw ((iw (v0 * 1103515245)) + 12345)) m) : Ev (d + 1) M_Game_nextState 0 0 0 [(0, v0)] [] kd m (zqI kd q) := by
  refine EvX.blk (pc' := 8) [(.iload_n 0, 0, 0), (.ldc 88, 0, 1103515245), (.imul, 0, 0), (.sipush 12345, 0, 0), (.iadd, 0, 0)] (by decide +kernel) ⟨z_Game_88, trivial⟩ ?_
  show Ev (d + 1) M_Game_nextState 0 0 8 [(0, v0)] [(0, iw ((iw (v0 * 1103515245)) + 12345))] kd m (zqI kd q)
  exact EvX.ret (r := (0, iw ((iw (v0 * 1103515245)) + 12345))) (by decide +kernel) rfl ⟨_, rfl, rfl, h⟩
theorem S_Game_nextState {d : Nat} {kd : ZK} {m : ZM} {q : Int → ZM → Prop} {v0 : Int} (h : q (iw ((iw (v0 * 1103515245)) + 12345)) m) : CtI (d + 1) M_Game_nextState [(0, v0)] kd m q :=
  Ct.start k_Game_nextState (Nat.le_of_ble_eq_true rfl) ⟨1, Or.inr (Or.inl ⟨rfl, rfl⟩)⟩ (T_Game_nextState_0 h)
set_option maxRecDepth 20000 in
set_option maxHeartbeats 1000000 in
theorem T_Game_weightTogether_0 {d : Nat} {kd : ZK} {m : ZM} {q : Int → ZM → Prop} {v0 : Int} (h : (Ev (d + 1) M_Game_weightTogether 0 0 4 [(2, v0), (0, 0), (0, 0), zJ] [] kd m (zqI kd q))) : Ev (d + 1) M_Game_weightTogether 0 0 0 [(2, v0), zJ, zJ, zJ] [] kd m (zqI kd q) := by
  refine EvX.blk (pc' := 4) [(.iconst 0, 0, 0), (.istore_n 1, 0, 0), (.iconst 0, 0, 0), (.istore_n 2, 0, 0)] (by decide +kernel) trivial ?_
  show Ev (d + 1) M_Game_weightTogether 0 0 4 [(2, v0), (0, 0), (0, 0), zJ] [] kd m (zqI kd q)
  exact h
theorem S_Game_weightTogether {d : Nat} {kd : ZK} {m : ZM} {q : Int → ZM → Prop} {v0 : Int} (h : (Ev (d + 1) M_Game_weightTogether 0 0 4 [(2, v0), (0, 0), (0, 0), zJ] [] kd m (zqI kd q))) : CtI (d + 1) M_Game_weightTogether [(2, v0)] kd m q :=
  Ct.start k_Game_weightTogether (Nat.le_of_ble_eq_true rfl) ⟨1, Or.inr (Or.inl ⟨rfl, rfl⟩)⟩ (T_Game_weightTogether_0 h)
set_option maxRecDepth 20000 in
set_option maxHeartbeats 1000000 in
theorem T_Game_weightTogether_4 {d : Nat} {kd : ZK} {m : ZM} {q : Int → ZM → Prop} {v0 v1 v2 : Int} (h : (zobj kd v0 1 ∧ (((m v0 0) ≤ v2 → q v1 m) ∧ (¬ (m v0 0) ≤ v2 → (Ev (d + 1) M_Game_weightTogether 0 0 14 [(2, v0), (0, v1), (0, v2), (0, 0)] [] kd m (zqI kd q)))))) : Ev (d + 1) M_Game_weightTogether 0 0 4 [(2, v0), (0, v1), (0, v2), zJ] [] kd m (zqI kd q) := by
  obtain ⟨o1, h⟩ := h
  refine EvX.blk (pc' := 9) [(.iload_n 2, 0, 0), (.aload_n 0, 0, 0), (.getfield 11, 1, 0)] (by decide +kernel) ⟨g_Game_11, trivial⟩ ⟨o1, ?_⟩
  show Ev (d + 1) M_Game_weightTogether 0 0 9 [(2, v0), (0, v1), (0, v2), zJ] [(0, m v0 0), (0, v2)] kd m (zqI kd q)
  refine EvX.icmp_ge (off := 39) (tgt := 48) (by decide +kernel) (by decide) (fun hc => ?_) (fun hc => ?_)
  · have h := h.1 hc
    refine EvX.blk (pc' := 49) [(.iload_n 1, 0, 0)] (by decide +kernel) trivial ?_
    show Ev (d + 1) M_Game_weightTogether 0 0 49 [(2, v0), (0, v1), (0, v2), zJ] [(0, v1)] kd m (zqI kd q)
    exact EvX.ret (r := (0, v1)) (by decide +kernel) rfl ⟨_, rfl, rfl, h⟩
  · have h := h.2 hc
    refine EvX.blk (pc' := 14) [(.iconst 0, 0, 0), (.istore_n 3, 0, 0)] (by decide +kernel) trivial ?_
    show Ev (d + 1) M_Game_weightTogether 0 0 14 [(2, v0), (0, v1), (0, v2), (0, 0)] [] kd m (zqI kd q)
    exact h
set_option maxRecDepth 20000 in
set_option maxHeartbeats 1000000 in
theorem T_Game_weightTogether_14 {d : Nat} {kd : ZK} {m : ZM} {q : Int → ZM → Prop} {v0 v1 v2 v3 : Int} (h : (zobj kd v0 1 ∧ (((m v0 1) ≤ v3 → (Ev (d + 1) M_Game_weightTogether 0 0 4 [(2, v0), (0, v1), (0, iw (v2 + 1)), zJ] [] kd m (zqI kd q))) ∧ (¬ (m v0 1) ≤ v3 → (zobj kd v0 1 ∧ (∃ q1, CtI d M_Ap_cellOf [(0, 0), (0, v2), (0, v3)] kd m q1 ∧ ∀ x2 m3, q1 x2 m3 → (zIn kd (m v0 4) 0 x2 ∧ (Ev (d + 1) M_Game_weightTogether 0 0 14 [(2, v0), (0, iw (v1 + (m3 (m v0 4) x2))), (0, v2), (0, iw (v3 + 1))] [] kd m3 (zqI kd q))))))))) : Ev (d + 1) M_Game_weightTogether 0 0 14 [(2, v0), (0, v1), (0, v2), (0, v3)] [] kd m (zqI kd q) := by
  obtain ⟨o1, h⟩ := h
  refine EvX.blk (pc' := 19) [(.iload_n 3, 0, 0), (.aload_n 0, 0, 0), (.getfield 15, 1, 1)] (by decide +kernel) ⟨g_Game_15, trivial⟩ ⟨o1, ?_⟩
  show Ev (d + 1) M_Game_weightTogether 0 0 19 [(2, v0), (0, v1), (0, v2), (0, v3)] [(0, m v0 1), (0, v3)] kd m (zqI kd q)
  refine EvX.icmp_ge (off := 23) (tgt := 42) (by decide +kernel) (by decide) (fun hc => ?_) (fun hc => ?_)
  · have h := h.1 hc
    refine EvX.blk (pc' := 45) [(.iinc 2 1, 0, 0)] (by decide +kernel) trivial ?_
    show Ev (d + 1) M_Game_weightTogether 0 0 45 [(2, v0), (0, v1), (0, iw (v2 + 1)), (0, v3)] [] kd m (zqI kd q)
    refine EvX.goto (off := (-41)) (tgt := 4) (by decide +kernel) (by decide) ?_
    exact EvX.weak (ls2 := [(2, v0), (0, v1), (0, iw (v2 + 1)), zJ]) (zwk_of ⟨Or.inr rfl, Or.inr rfl, Or.inr rfl, Or.inl rfl, trivial⟩) h
  · have h := h.2 hc
    obtain ⟨o1, h⟩ := h
    refine EvX.blk (pc' := 30) [(.iload_n 1, 0, 0), (.aload_n 0, 0, 0), (.getfield 24, 1, 4), (.iconst 0, 0, 0), (.iload_n 2, 0, 0), (.iload_n 3, 0, 0)] (by decide +kernel) ⟨g_Game_24, trivial⟩ ⟨o1, ?_⟩
    show Ev (d + 1) M_Game_weightTogether 0 0 30 [(2, v0), (0, v1), (0, v2), (0, v3)] [(0, v3), (0, v2), (0, 0), (2, m v0 4), (0, v1)] kd m (zqI kd q)
    obtain ⟨q1, hq, h⟩ := h
    refine EvX.callS (mc := 0) (ms := 0) (as := [(0, 0), (0, v2), (0, v3)]) (st := [(2, m v0 4), (0, v1)]) (by decide +kernel) l_Game_40 k_Ap_cellOf s_Ap_cellOf a_Ap_cellOf (by decide) (Nat.le_of_ble_eq_true rfl) hq (fun r kd1 m3 hr => ?_)
    obtain ⟨x2, rfl, hk, hr⟩ := hr
    subst kd1
    have h := h x2 m3 hr
    show Ev (d + 1) M_Game_weightTogether 0 0 33 [(2, v0), (0, v1), (0, v2), (0, v3)] [(0, x2), (2, m v0 4), (0, v1)] kd m3 (zqI kd q)
    obtain ⟨o1, h⟩ := h
    refine EvX.blk (pc' := 39) [(.iaload, 0, 0), (.iadd, 0, 0), (.istore_n 1, 0, 0), (.iinc 3 1, 0, 0)] (by decide +kernel) trivial ⟨o1, ?_⟩
    show Ev (d + 1) M_Game_weightTogether 0 0 39 [(2, v0), (0, iw (v1 + (m3 (m v0 4) x2))), (0, v2), (0, iw (v3 + 1))] [] kd m3 (zqI kd q)
    refine EvX.goto (off := (-25)) (tgt := 14) (by decide +kernel) (by decide) ?_
    exact h
set_option maxRecDepth 20000 in
set_option maxHeartbeats 1000000 in
theorem T_Game_winningAt_0 {d : Nat} {kd : ZK} {m : ZM} {q : Int → ZM → Prop} {v0 v1 v2 : Int} (h : (Ev (d + 1) M_Game_winningAt 0 0 5 [(2, v0), (0, v1), (0, v2), (0, 0), (0, 0), zJ] [] kd m (zqI kd q))) : Ev (d + 1) M_Game_winningAt 0 0 0 [(2, v0), (0, v1), (0, v2), zJ, zJ, zJ] [] kd m (zqI kd q) := by
  refine EvX.blk (pc' := 5) [(.iconst 0, 0, 0), (.istore_n 3, 0, 0), (.iconst 0, 0, 0), (.istore 4, 0, 0)] (by decide +kernel) trivial ?_
  show Ev (d + 1) M_Game_winningAt 0 0 5 [(2, v0), (0, v1), (0, v2), (0, 0), (0, 0), zJ] [] kd m (zqI kd q)
  exact h
theorem S_Game_winningAt {d : Nat} {kd : ZK} {m : ZM} {q : Int → ZM → Prop} {v0 v1 v2 : Int} (h : (Ev (d + 1) M_Game_winningAt 0 0 5 [(2, v0), (0, v1), (0, v2), (0, 0), (0, 0), zJ] [] kd m (zqI kd q))) : CtI (d + 1) M_Game_winningAt [(2, v0), (0, v1), (0, v2)] kd m q :=
  Ct.start k_Game_winningAt (Nat.le_of_ble_eq_true rfl) ⟨1, Or.inr (Or.inl ⟨rfl, rfl⟩)⟩ (T_Game_winningAt_0 h)
set_option maxRecDepth 20000 in
set_option maxHeartbeats 1000000 in
theorem T_Game_winningAt_5 {d : Nat} {kd : ZK} {m : ZM} {q : Int → ZM → Prop} {v0 v1 v2 v3 v4 : Int} (h : (zobj kd v0 1 ∧ (((m v0 2) ≤ v4 → q v3 m) ∧ (¬ (m v0 2) ≤ v4 → (Ev (d + 1) M_Game_winningAt 0 0 17 [(2, v0), (0, v1), (0, v2), (0, v3), (0, v4), (0, 0)] [] kd m (zqI kd q)))))) : Ev (d + 1) M_Game_winningAt 0 0 5 [(2, v0), (0, v1), (0, v2), (0, v3), (0, v4), zJ] [] kd m (zqI kd q) := by
  obtain ⟨o1, h⟩ := h
  refine EvX.blk (pc' := 11) [(.iload 4, 0, 0), (.aload_n 0, 0, 0), (.getfield 18, 1, 2)] (by decide +kernel) ⟨g_Game_18, trivial⟩ ⟨o1, ?_⟩
  show Ev (d + 1) M_Game_winningAt 0 0 11 [(2, v0), (0, v1), (0, v2), (0, v3), (0, v4), zJ] [(0, m v0 2), (0, v4)] kd m (zqI kd q)
  refine EvX.icmp_ge (off := 45) (tgt := 56) (by decide +kernel) (by decide) (fun hc => ?_) (fun hc => ?_)
  · have h := h.1 hc
    refine EvX.blk (pc' := 57) [(.iload_n 3, 0, 0)] (by decide +kernel) trivial ?_
    show Ev (d + 1) M_Game_winningAt 0 0 57 [(2, v0), (0, v1), (0, v2), (0, v3), (0, v4), zJ] [(0, v3)] kd m (zqI kd q)
    exact EvX.ret (r := (0, v3)) (by decide +kernel) rfl ⟨_, rfl, rfl, h⟩
  · have h := h.2 hc
    refine EvX.blk (pc' := 17) [(.iconst 0, 0, 0), (.istore 5, 0, 0)] (by decide +kernel) trivial ?_
    show Ev (d + 1) M_Game_winningAt 0 0 17 [(2, v0), (0, v1), (0, v2), (0, v3), (0, v4), (0, 0)] [] kd m (zqI kd q)
    exact h
set_option maxRecDepth 20000 in
set_option maxHeartbeats 1000000 in
theorem T_Game_winningAt_17 {d : Nat} {kd : ZK} {m : ZM} {q : Int → ZM → Prop} {v0 v1 v2 v3 v4 v5 : Int} (h : (zobj kd v0 1 ∧ (((m v0 3) ≤ v5 → (Ev (d + 1) M_Game_winningAt 0 0 5 [(2, v0), (0, v1), (0, v2), (0, v3), (0, iw (v4 + 1)), zJ] [] kd m (zqI kd q))) ∧ (¬ (m v0 3) ≤ v5 → (zobj kd v0 1 ∧ (∃ q1, CtI d M_Ap_spotOf [(0, 0), (0, v1), (0, v2), (0, v4), (0, v5)] kd m q1 ∧ ∀ x2 m3, q1 x2 m3 → (zIn kd (m v0 5) 0 x2 ∧ (Ev (d + 1) M_Game_winningAt 0 0 17 [(2, v0), (0, v1), (0, v2), (0, iw (v3 + (m3 (m v0 5) x2))), (0, v4), (0, iw (v5 + 1))] [] kd m3 (zqI kd q))))))))) : Ev (d + 1) M_Game_winningAt 0 0 17 [(2, v0), (0, v1), (0, v2), (0, v3), (0, v4), (0, v5)] [] kd m (zqI kd q) := by
  obtain ⟨o1, h⟩ := h
  refine EvX.blk (pc' := 23) [(.iload 5, 0, 0), (.aload_n 0, 0, 0), (.getfield 21, 1, 3)] (by decide +kernel) ⟨g_Game_21, trivial⟩ ⟨o1, ?_⟩
  show Ev (d + 1) M_Game_winningAt 0 0 23 [(2, v0), (0, v1), (0, v2), (0, v3), (0, v4), (0, v5)] [(0, m v0 3), (0, v5)] kd m (zqI kd q)
  refine EvX.icmp_ge (off := 27) (tgt := 50) (by decide +kernel) (by decide) (fun hc => ?_) (fun hc => ?_)
  · have h := h.1 hc
    refine EvX.blk (pc' := 53) [(.iinc 4 1, 0, 0)] (by decide +kernel) trivial ?_
    show Ev (d + 1) M_Game_winningAt 0 0 53 [(2, v0), (0, v1), (0, v2), (0, v3), (0, iw (v4 + 1)), (0, v5)] [] kd m (zqI kd q)
    refine EvX.goto (off := (-48)) (tgt := 5) (by decide +kernel) (by decide) ?_
    exact EvX.weak (ls2 := [(2, v0), (0, v1), (0, v2), (0, v3), (0, iw (v4 + 1)), zJ]) (zwk_of ⟨Or.inr rfl, Or.inr rfl, Or.inr rfl, Or.inr rfl, Or.inr rfl, Or.inl rfl, trivial⟩) h
  · have h := h.2 hc
    obtain ⟨o1, h⟩ := h
    refine EvX.blk (pc' := 38) [(.iload_n 3, 0, 0), (.aload_n 0, 0, 0), (.getfield 28, 1, 5), (.iconst 0, 0, 0), (.iload_n 1, 0, 0), (.iload_n 2, 0, 0), (.iload 4, 0, 0), (.iload 5, 0, 0)] (by decide +kernel) ⟨g_Game_28, trivial⟩ ⟨o1, ?_⟩
    show Ev (d + 1) M_Game_winningAt 0 0 38 [(2, v0), (0, v1), (0, v2), (0, v3), (0, v4), (0, v5)] [(0, v5), (0, v4), (0, v2), (0, v1), (0, 0), (2, m v0 5), (0, v3)] kd m (zqI kd q)
    obtain ⟨q1, hq, h⟩ := h
    refine EvX.callS (mc := 0) (ms := 0) (as := [(0, 0), (0, v1), (0, v2), (0, v4), (0, v5)]) (st := [(2, m v0 5), (0, v3)]) (by decide +kernel) l_Game_48 k_Ap_spotOf s_Ap_spotOf a_Ap_spotOf (by decide) (Nat.le_of_ble_eq_true rfl) hq (fun r kd1 m3 hr => ?_)
    obtain ⟨x2, rfl, hk, hr⟩ := hr
    subst kd1
    have h := h x2 m3 hr
    show Ev (d + 1) M_Game_winningAt 0 0 41 [(2, v0), (0, v1), (0, v2), (0, v3), (0, v4), (0, v5)] [(0, x2), (2, m v0 5), (0, v3)] kd m3 (zqI kd q)
    obtain ⟨o1, h⟩ := h
    refine EvX.blk (pc' := 47) [(.iaload, 0, 0), (.iadd, 0, 0), (.istore_n 3, 0, 0), (.iinc 5 1, 0, 0)] (by decide +kernel) trivial ⟨o1, ?_⟩
    show Ev (d + 1) M_Game_winningAt 0 0 47 [(2, v0), (0, v1), (0, v2), (0, iw (v3 + (m3 (m v0 5) x2))), (0, v4), (0, iw (v5 + 1))] [] kd m3 (zqI kd q)
    refine EvX.goto (off := (-30)) (tgt := 17) (by decide +kernel) (by decide) ?_
    exact h
set_option maxRecDepth 20000 in
set_option maxHeartbeats 1000000 in
theorem T_Game_winningSpots_0 {d : Nat} {kd : ZK} {m : ZM} {q : Int → ZM → Prop} {v0 : Int} (h : (Ev (d + 1) M_Game_winningSpots 0 0 4 [(2, v0), (0, 0), (0, 0), zJ] [] kd m (zqI kd q))) : Ev (d + 1) M_Game_winningSpots 0 0 0 [(2, v0), zJ, zJ, zJ] [] kd m (zqI kd q) := by
  refine EvX.blk (pc' := 4) [(.iconst 0, 0, 0), (.istore_n 1, 0, 0), (.iconst 0, 0, 0), (.istore_n 2, 0, 0)] (by decide +kernel) trivial ?_
  show Ev (d + 1) M_Game_winningSpots 0 0 4 [(2, v0), (0, 0), (0, 0), zJ] [] kd m (zqI kd q)
  exact h
theorem S_Game_winningSpots {d : Nat} {kd : ZK} {m : ZM} {q : Int → ZM → Prop} {v0 : Int} (h : (Ev (d + 1) M_Game_winningSpots 0 0 4 [(2, v0), (0, 0), (0, 0), zJ] [] kd m (zqI kd q))) : CtI (d + 1) M_Game_winningSpots [(2, v0)] kd m q :=
  Ct.start k_Game_winningSpots (Nat.le_of_ble_eq_true rfl) ⟨1, Or.inr (Or.inl ⟨rfl, rfl⟩)⟩ (T_Game_winningSpots_0 h)
set_option maxRecDepth 20000 in
set_option maxHeartbeats 1000000 in
theorem T_Game_winningSpots_4 {d : Nat} {kd : ZK} {m : ZM} {q : Int → ZM → Prop} {v0 v1 v2 : Int} (h : (zobj kd v0 1 ∧ (((m v0 0) ≤ v2 → q v1 m) ∧ (¬ (m v0 0) ≤ v2 → (Ev (d + 1) M_Game_winningSpots 0 0 14 [(2, v0), (0, v1), (0, v2), (0, 0)] [] kd m (zqI kd q)))))) : Ev (d + 1) M_Game_winningSpots 0 0 4 [(2, v0), (0, v1), (0, v2), zJ] [] kd m (zqI kd q) := by
  obtain ⟨o1, h⟩ := h
  refine EvX.blk (pc' := 9) [(.iload_n 2, 0, 0), (.aload_n 0, 0, 0), (.getfield 11, 1, 0)] (by decide +kernel) ⟨g_Game_11, trivial⟩ ⟨o1, ?_⟩
  show Ev (d + 1) M_Game_winningSpots 0 0 9 [(2, v0), (0, v1), (0, v2), zJ] [(0, m v0 0), (0, v2)] kd m (zqI kd q)
  refine EvX.icmp_ge (off := 34) (tgt := 43) (by decide +kernel) (by decide) (fun hc => ?_) (fun hc => ?_)
  · have h := h.1 hc
    refine EvX.blk (pc' := 44) [(.iload_n 1, 0, 0)] (by decide +kernel) trivial ?_
    show Ev (d + 1) M_Game_winningSpots 0 0 44 [(2, v0), (0, v1), (0, v2), zJ] [(0, v1)] kd m (zqI kd q)
    exact EvX.ret (r := (0, v1)) (by decide +kernel) rfl ⟨_, rfl, rfl, h⟩
  · have h := h.2 hc
    refine EvX.blk (pc' := 14) [(.iconst 0, 0, 0), (.istore_n 3, 0, 0)] (by decide +kernel) trivial ?_
    show Ev (d + 1) M_Game_winningSpots 0 0 14 [(2, v0), (0, v1), (0, v2), (0, 0)] [] kd m (zqI kd q)
    exact h
set_option maxRecDepth 20000 in
set_option maxHeartbeats 1000000 in
theorem T_Game_winningSpots_14 {d : Nat} {kd : ZK} {m : ZM} {q : Int → ZM → Prop} {v0 v1 v2 v3 : Int} (h : (zobj kd v0 1 ∧ (((m v0 1) ≤ v3 → (Ev (d + 1) M_Game_winningSpots 0 0 4 [(2, v0), (0, v1), (0, iw (v2 + 1)), zJ] [] kd m (zqI kd q))) ∧ (¬ (m v0 1) ≤ v3 → (zobj kd v0 1 ∧ ∃ q1, CtI d M_Game_winningAt [(2, v0), (0, v2), (0, v3)] kd m q1 ∧ ∀ x2 m3, q1 x2 m3 → (Ev (d + 1) M_Game_winningSpots 0 0 14 [(2, v0), (0, iw (v1 + x2)), (0, v2), (0, iw (v3 + 1))] [] kd m3 (zqI kd q))))))) : Ev (d + 1) M_Game_winningSpots 0 0 14 [(2, v0), (0, v1), (0, v2), (0, v3)] [] kd m (zqI kd q) := by
  obtain ⟨o1, h⟩ := h
  refine EvX.blk (pc' := 19) [(.iload_n 3, 0, 0), (.aload_n 0, 0, 0), (.getfield 15, 1, 1)] (by decide +kernel) ⟨g_Game_15, trivial⟩ ⟨o1, ?_⟩
  show Ev (d + 1) M_Game_winningSpots 0 0 19 [(2, v0), (0, v1), (0, v2), (0, v3)] [(0, m v0 1), (0, v3)] kd m (zqI kd q)
  refine EvX.icmp_ge (off := 18) (tgt := 37) (by decide +kernel) (by decide) (fun hc => ?_) (fun hc => ?_)
  · have h := h.1 hc
    refine EvX.blk (pc' := 40) [(.iinc 2 1, 0, 0)] (by decide +kernel) trivial ?_
    show Ev (d + 1) M_Game_winningSpots 0 0 40 [(2, v0), (0, v1), (0, iw (v2 + 1)), (0, v3)] [] kd m (zqI kd q)
    refine EvX.goto (off := (-36)) (tgt := 4) (by decide +kernel) (by decide) ?_
    exact EvX.weak (ls2 := [(2, v0), (0, v1), (0, iw (v2 + 1)), zJ]) (zwk_of ⟨Or.inr rfl, Or.inr rfl, Or.inr rfl, Or.inl rfl, trivial⟩) h
  · have h := h.2 hc
    refine EvX.blk (pc' := 26) [(.iload_n 1, 0, 0), (.aload_n 0, 0, 0), (.iload_n 2, 0, 0), (.iload_n 3, 0, 0)] (by decide +kernel) trivial ?_
    show Ev (d + 1) M_Game_winningSpots 0 0 26 [(2, v0), (0, v1), (0, v2), (0, v3)] [(0, v3), (0, v2), (2, v0), (0, v1)] kd m (zqI kd q)
    obtain ⟨ov, h⟩ := h
    obtain ⟨q1, hq, h⟩ := h
    refine EvX.callV (c := 1) (mc := 0) (ms := 0) (as := [(0, v2), (0, v3)]) (st := [(0, v1)]) (by decide +kernel) l_Game_89 k_Game_winningAt v_Game_winningAt a_Game_winningAt (by decide) (Nat.le_of_ble_eq_true rfl) rfl ov hq (fun r kd1 m3 hr => ?_)
    obtain ⟨x2, rfl, hk, hr⟩ := hr
    subst kd1
    have h := h x2 m3 hr
    show Ev (d + 1) M_Game_winningSpots 0 0 29 [(2, v0), (0, v1), (0, v2), (0, v3)] [(0, x2), (0, v1)] kd m3 (zqI kd q)
    refine EvX.blk (pc' := 34) [(.iadd, 0, 0), (.istore_n 1, 0, 0), (.iinc 3 1, 0, 0)] (by decide +kernel) trivial ?_
    show Ev (d + 1) M_Game_winningSpots 0 0 34 [(2, v0), (0, iw (v1 + x2)), (0, v2), (0, iw (v3 + 1))] [] kd m3 (zqI kd q)
    refine EvX.goto (off := (-20)) (tgt := 14) (by decide +kernel) (by decide) ?_
    exact h
set_option maxRecDepth 20000 in
set_option maxHeartbeats 1000000 in
theorem T_Game_weightOfWinningSpots_0 {d : Nat} {kd : ZK} {m : ZM} {q : Int → ZM → Prop} {v0 : Int} (h : (Ev (d + 1) M_Game_weightOfWinningSpots 0 0 4 [(2, v0), (0, 0), (0, 0), zJ] [] kd m (zqI kd q))) : Ev (d + 1) M_Game_weightOfWinningSpots 0 0 0 [(2, v0), zJ, zJ, zJ] [] kd m (zqI kd q) := by
  refine EvX.blk (pc' := 4) [(.iconst 0, 0, 0), (.istore_n 1, 0, 0), (.iconst 0, 0, 0), (.istore_n 2, 0, 0)] (by decide +kernel) trivial ?_
  show Ev (d + 1) M_Game_weightOfWinningSpots 0 0 4 [(2, v0), (0, 0), (0, 0), zJ] [] kd m (zqI kd q)
  exact h
theorem S_Game_weightOfWinningSpots {d : Nat} {kd : ZK} {m : ZM} {q : Int → ZM → Prop} {v0 : Int} (h : (Ev (d + 1) M_Game_weightOfWinningSpots 0 0 4 [(2, v0), (0, 0), (0, 0), zJ] [] kd m (zqI kd q))) : CtI (d + 1) M_Game_weightOfWinningSpots [(2, v0)] kd m q :=
  Ct.start k_Game_weightOfWinningSpots (Nat.le_of_ble_eq_true rfl) ⟨1, Or.inr (Or.inl ⟨rfl, rfl⟩)⟩ (T_Game_weightOfWinningSpots_0 h)
set_option maxRecDepth 20000 in
set_option maxHeartbeats 1000000 in
theorem T_Game_weightOfWinningSpots_4 {d : Nat} {kd : ZK} {m : ZM} {q : Int → ZM → Prop} {v0 v1 v2 : Int} (h : (zobj kd v0 1 ∧ (((m v0 0) ≤ v2 → q v1 m) ∧ (¬ (m v0 0) ≤ v2 → (Ev (d + 1) M_Game_weightOfWinningSpots 0 0 14 [(2, v0), (0, v1), (0, v2), (0, 0)] [] kd m (zqI kd q)))))) : Ev (d + 1) M_Game_weightOfWinningSpots 0 0 4 [(2, v0), (0, v1), (0, v2), zJ] [] kd m (zqI kd q) := by
  obtain ⟨o1, h⟩ := h
  refine EvX.blk (pc' := 9) [(.iload_n 2, 0, 0), (.aload_n 0, 0, 0), (.getfield 11, 1, 0)] (by decide +kernel) ⟨g_Game_11, trivial⟩ ⟨o1, ?_⟩
  show Ev (d + 1) M_Game_weightOfWinningSpots 0 0 9 [(2, v0), (0, v1), (0, v2), zJ] [(0, m v0 0), (0, v2)] kd m (zqI kd q)
  refine EvX.icmp_ge (off := 46) (tgt := 55) (by decide +kernel) (by decide) (fun hc => ?_) (fun hc => ?_)
  · have h := h.1 hc
    refine EvX.blk (pc' := 56) [(.iload_n 1, 0, 0)] (by decide +kernel) trivial ?_
    show Ev (d + 1) M_Game_weightOfWinningSpots 0 0 56 [(2, v0), (0, v1), (0, v2), zJ] [(0, v1)] kd m (zqI kd q)
    exact EvX.ret (r := (0, v1)) (by decide +kernel) rfl ⟨_, rfl, rfl, h⟩
  · have h := h.2 hc
    refine EvX.blk (pc' := 14) [(.iconst 0, 0, 0), (.istore_n 3, 0, 0)] (by decide +kernel) trivial ?_
    show Ev (d + 1) M_Game_weightOfWinningSpots 0 0 14 [(2, v0), (0, v1), (0, v2), (0, 0)] [] kd m (zqI kd q)
    exact h
set_option maxRecDepth 20000 in
set_option maxHeartbeats 1000000 in
theorem T_Game_weightOfWinningSpots_14 {d : Nat} {kd : ZK} {m : ZM} {q : Int → ZM → Prop} {v0 v1 v2 v3 : Int} (h : (zobj kd v0 1 ∧ (((m v0 1) ≤ v3 → (Ev (d + 1) M_Game_weightOfWinningSpots 0 0 4 [(2, v0), (0, v1), (0, iw (v2 + 1)), zJ] [] kd m (zqI kd q))) ∧ (¬ (m v0 1) ≤ v3 → (zobj kd v0 1 ∧ (∃ q1, CtI d M_Ap_cellOf [(0, 0), (0, v2), (0, v3)] kd m q1 ∧ ∀ x2 m3, q1 x2 m3 → (zIn kd (m v0 4) 0 x2 ∧ (zobj kd v0 1 ∧ ∃ q4, CtI d M_Game_winningAt [(2, v0), (0, v2), (0, v3)] kd m3 q4 ∧ ∀ x5 m6, q4 x5 m6 → (Ev (d + 1) M_Game_weightOfWinningSpots 0 0 14 [(2, v0), (0, iw (v1 + (iw ((m3 (m v0 4) x2) * x5)))), (0, v2), (0, iw (v3 + 1))] [] kd m6 (zqI kd q)))))))))) : Ev (d + 1) M_Game_weightOfWinningSpots 0 0 14 [(2, v0), (0, v1), (0, v2), (0, v3)] [] kd m (zqI kd q) := by
  obtain ⟨o1, h⟩ := h
  refine EvX.blk (pc' := 19) [(.iload_n 3, 0, 0), (.aload_n 0, 0, 0), (.getfield 15, 1, 1)] (by decide +kernel) ⟨g_Game_15, trivial⟩ ⟨o1, ?_⟩
  show Ev (d + 1) M_Game_weightOfWinningSpots 0 0 19 [(2, v0), (0, v1), (0, v2), (0, v3)] [(0, m v0 1), (0, v3)] kd m (zqI kd q)
  refine EvX.icmp_ge (off := 30) (tgt := 49) (by decide +kernel) (by decide) (fun hc => ?_) (fun hc => ?_)
  · have h := h.1 hc
    refine EvX.blk (pc' := 52) [(.iinc 2 1, 0, 0)] (by decide +kernel) trivial ?_
    show Ev (d + 1) M_Game_weightOfWinningSpots 0 0 52 [(2, v0), (0, v1), (0, iw (v2 + 1)), (0, v3)] [] kd m (zqI kd q)
    refine EvX.goto (off := (-48)) (tgt := 4) (by decide +kernel) (by decide) ?_
    exact EvX.weak (ls2 := [(2, v0), (0, v1), (0, iw (v2 + 1)), zJ]) (zwk_of ⟨Or.inr rfl, Or.inr rfl, Or.inr rfl, Or.inl rfl, trivial⟩) h
  · have h := h.2 hc
    obtain ⟨o1, h⟩ := h
    refine EvX.blk (pc' := 30) [(.iload_n 1, 0, 0), (.aload_n 0, 0, 0), (.getfield 24, 1, 4), (.iconst 0, 0, 0), (.iload_n 2, 0, 0), (.iload_n 3, 0, 0)] (by decide +kernel) ⟨g_Game_24, trivial⟩ ⟨o1, ?_⟩
    show Ev (d + 1) M_Game_weightOfWinningSpots 0 0 30 [(2, v0), (0, v1), (0, v2), (0, v3)] [(0, v3), (0, v2), (0, 0), (2, m v0 4), (0, v1)] kd m (zqI kd q)
    obtain ⟨q1, hq, h⟩ := h
    refine EvX.callS (mc := 0) (ms := 0) (as := [(0, 0), (0, v2), (0, v3)]) (st := [(2, m v0 4), (0, v1)]) (by decide +kernel) l_Game_40 k_Ap_cellOf s_Ap_cellOf a_Ap_cellOf (by decide) (Nat.le_of_ble_eq_true rfl) hq (fun r kd1 m3 hr => ?_)
    obtain ⟨x2, rfl, hk, hr⟩ := hr
    subst kd1
    have h := h x2 m3 hr
    show Ev (d + 1) M_Game_weightOfWinningSpots 0 0 33 [(2, v0), (0, v1), (0, v2), (0, v3)] [(0, x2), (2, m v0 4), (0, v1)] kd m3 (zqI kd q)
    obtain ⟨o1, h⟩ := h
    refine EvX.blk (pc' := 37) [(.iaload, 0, 0), (.aload_n 0, 0, 0), (.iload_n 2, 0, 0), (.iload_n 3, 0, 0)] (by decide +kernel) trivial ⟨o1, ?_⟩
    show Ev (d + 1) M_Game_weightOfWinningSpots 0 0 37 [(2, v0), (0, v1), (0, v2), (0, v3)] [(0, v3), (0, v2), (2, v0), (0, m3 (m v0 4) x2), (0, v1)] kd m3 (zqI kd q)
    obtain ⟨ov, h⟩ := h
    obtain ⟨q4, hq, h⟩ := h
    refine EvX.callV (c := 1) (mc := 0) (ms := 0) (as := [(0, v2), (0, v3)]) (st := [(0, m3 (m v0 4) x2), (0, v1)]) (by decide +kernel) l_Game_89 k_Game_winningAt v_Game_winningAt a_Game_winningAt (by decide) (Nat.le_of_ble_eq_true rfl) rfl ov hq (fun r kd1 m6 hr => ?_)
    obtain ⟨x5, rfl, hk, hr⟩ := hr
    subst kd1
    have h := h x5 m6 hr
    show Ev (d + 1) M_Game_weightOfWinningSpots 0 0 40 [(2, v0), (0, v1), (0, v2), (0, v3)] [(0, x5), (0, m3 (m v0 4) x2), (0, v1)] kd m6 (zqI kd q)
    refine EvX.blk (pc' := 46) [(.imul, 0, 0), (.iadd, 0, 0), (.istore_n 1, 0, 0), (.iinc 3 1, 0, 0)] (by decide +kernel) trivial ?_
    show Ev (d + 1) M_Game_weightOfWinningSpots 0 0 46 [(2, v0), (0, iw (v1 + (iw ((m3 (m v0 4) x2) * x5)))), (0, v2), (0, iw (v3 + 1))] [] kd m6 (zqI kd q)
    refine EvX.goto (off := (-32)) (tgt := 14) (by decide +kernel) (by decide) ?_
    exact h
set_option maxRecDepth 20000 in
set_option maxHeartbeats 1000000 in
theorem T_Game_isLesser_0 {d : Nat} {kd : ZK} {m : ZM} {q : Int → ZM → Prop} {v0 v1 v2 v3 v4 : Int} (h : (Ev (d + 1) M_Game_isLesser 0 0 3 [(2, v0), (0, v1), (0, v2), (0, v3), (0, v4), (0, 0), zJ] [] kd m (zqI kd q))) : Ev (d + 1) M_Game_isLesser 0 0 0 [(2, v0), (0, v1), (0, v2), (0, v3), (0, v4), zJ, zJ] [] kd m (zqI kd q) := by
  refine EvX.blk (pc' := 3) [(.iconst 0, 0, 0), (.istore 5, 0, 0)] (by decide +kernel) trivial ?_
  show Ev (d + 1) M_Game_isLesser 0 0 3 [(2, v0), (0, v1), (0, v2), (0, v3), (0, v4), (0, 0), zJ] [] kd m (zqI kd q)
  exact h
theorem S_Game_isLesser {d : Nat} {kd : ZK} {m : ZM} {q : Int → ZM → Prop} {v0 v1 v2 v3 v4 : Int} (h : (Ev (d + 1) M_Game_isLesser 0 0 3 [(2, v0), (0, v1), (0, v2), (0, v3), (0, v4), (0, 0), zJ] [] kd m (zqI kd q))) : CtI (d + 1) M_Game_isLesser [(2, v0), (0, v1), (0, v2), (0, v3), (0, v4)] kd m q :=
  Ct.start k_Game_isLesser (Nat.le_of_ble_eq_true rfl) ⟨2, Or.inr (Or.inr (Or.inl ⟨rfl, rfl⟩))⟩ (T_Game_isLesser_0 h)
set_option maxRecDepth 20000 in
set_option maxHeartbeats 1000000 in
theorem T_Game_isLesser_3 {d : Nat} {kd : ZK} {m : ZM} {q : Int → ZM → Prop} {v0 v1 v2 v3 v4 v5 : Int} (h : (zobj kd v0 1 ∧ ∃ q1, CtI d M_Game_questionsOf [(2, v0), (0, iw (1 - v1))] kd m q1 ∧ ∀ x2 m3, q1 x2 m3 → ((x2 ≤ v5 → q 1 m3) ∧ (¬ x2 ≤ v5 → (Ev (d + 1) M_Game_isLesser 0 0 18 [(2, v0), (0, v1), (0, v2), (0, v3), (0, v4), (0, v5), (0, 0)] [] kd m3 (zqI kd q)))))) : Ev (d + 1) M_Game_isLesser 0 0 3 [(2, v0), (0, v1), (0, v2), (0, v3), (0, v4), (0, v5), zJ] [] kd m (zqI kd q) := by
  refine EvX.blk (pc' := 9) [(.iload 5, 0, 0), (.aload_n 0, 0, 0), (.iconst 1, 0, 0), (.iload_n 1, 0, 0), (.isub, 0, 0)] (by decide +kernel) trivial ?_
  show Ev (d + 1) M_Game_isLesser 0 0 9 [(2, v0), (0, v1), (0, v2), (0, v3), (0, v4), (0, v5), zJ] [(0, iw (1 - v1)), (2, v0), (0, v5)] kd m (zqI kd q)
  obtain ⟨ov, h⟩ := h
  obtain ⟨q1, hq, h⟩ := h
  refine EvX.callV (c := 1) (mc := 0) (ms := 0) (as := [(0, iw (1 - v1))]) (st := [(0, v5)]) (by decide +kernel) l_Game_56 k_Game_questionsOf v_Game_questionsOf a_Game_questionsOf (by decide) (Nat.le_of_ble_eq_true rfl) rfl ov hq (fun r kd1 m3 hr => ?_)
  obtain ⟨x2, rfl, hk, hr⟩ := hr
  subst kd1
  have h := h x2 m3 hr
  show Ev (d + 1) M_Game_isLesser 0 0 12 [(2, v0), (0, v1), (0, v2), (0, v3), (0, v4), (0, v5), zJ] [(0, x2), (0, v5)] kd m3 (zqI kd q)
  refine EvX.icmp_ge (off := 58) (tgt := 70) (by decide +kernel) (by decide) (fun hc => ?_) (fun hc => ?_)
  · have h := h.1 hc
    refine EvX.blk (pc' := 71) [(.iconst 1, 0, 0)] (by decide +kernel) trivial ?_
    show Ev (d + 1) M_Game_isLesser 0 0 71 [(2, v0), (0, v1), (0, v2), (0, v3), (0, v4), (0, v5), zJ] [(0, 1)] kd m3 (zqI kd q)
    exact EvX.ret (r := (0, 1)) (by decide +kernel) ⟨rfl, by decide, by decide⟩ ⟨_, rfl, rfl, h⟩
  · have h := h.2 hc
    refine EvX.blk (pc' := 18) [(.iconst 0, 0, 0), (.istore 6, 0, 0)] (by decide +kernel) trivial ?_
    show Ev (d + 1) M_Game_isLesser 0 0 18 [(2, v0), (0, v1), (0, v2), (0, v3), (0, v4), (0, v5), (0, 0)] [] kd m3 (zqI kd q)
    exact h
set_option maxRecDepth 20000 in
set_option maxHeartbeats 1000000 in
theorem T_Game_isLesser_18 {d : Nat} {kd : ZK} {m : ZM} {q : Int → ZM → Prop} {v0 v1 v2 v3 v4 v5 v6 : Int} (h : (zobj kd v0 1 ∧ ∃ q1, CtI d M_Game_answersOf [(2, v0), (0, iw (1 - v1))] kd m q1 ∧ ∀ x2 m3, q1 x2 m3 → ((x2 ≤ v6 → (Ev (d + 1) M_Game_isLesser 0 0 3 [(2, v0), (0, v1), (0, v2), (0, v3), (0, v4), (0, iw (v5 + 1)), zJ] [] kd m3 (zqI kd q))) ∧ (¬ x2 ≤ v6 → (zobj kd v0 1 ∧ ∃ q4, CtI d M_Game_gain [(2, v0), (0, v1), (0, v2), (0, v5), (0, v3), (0, v6)] kd m3 q4 ∧ ∀ x5 m6, q4 x5 m6 → (zobj kd v0 1 ∧ ∃ q7, CtI d M_Game_gain [(2, v0), (0, v1), (0, v2), (0, v5), (0, v4), (0, v6)] kd m6 q7 ∧ ∀ x8 m9, q7 x8 m9 → ((x5 ≤ x8 → (Ev (d + 1) M_Game_isLesser 0 0 18 [(2, v0), (0, v1), (0, v2), (0, v3), (0, v4), (0, v5), (0, iw (v6 + 1))] [] kd m9 (zqI kd q))) ∧ (¬ x5 ≤ x8 → q 0 m9)))))))) : Ev (d + 1) M_Game_isLesser 0 0 18 [(2, v0), (0, v1), (0, v2), (0, v3), (0, v4), (0, v5), (0, v6)] [] kd m (zqI kd q) := by
  refine EvX.blk (pc' := 24) [(.iload 6, 0, 0), (.aload_n 0, 0, 0), (.iconst 1, 0, 0), (.iload_n 1, 0, 0), (.isub, 0, 0)] (by decide +kernel) trivial ?_
  show Ev (d + 1) M_Game_isLesser 0 0 24 [(2, v0), (0, v1), (0, v2), (0, v3), (0, v4), (0, v5), (0, v6)] [(0, iw (1 - v1)), (2, v0), (0, v6)] kd m (zqI kd q)
  obtain ⟨ov, h⟩ := h
  obtain ⟨q1, hq, h⟩ := h
  refine EvX.callV (c := 1) (mc := 0) (ms := 0) (as := [(0, iw (1 - v1))]) (st := [(0, v6)]) (by decide +kernel) l_Game_60 k_Game_answersOf v_Game_answersOf a_Game_answersOf (by decide) (Nat.le_of_ble_eq_true rfl) rfl ov hq (fun r kd1 m3 hr => ?_)
  obtain ⟨x2, rfl, hk, hr⟩ := hr
  subst kd1
  have h := h x2 m3 hr
  show Ev (d + 1) M_Game_isLesser 0 0 27 [(2, v0), (0, v1), (0, v2), (0, v3), (0, v4), (0, v5), (0, v6)] [(0, x2), (0, v6)] kd m3 (zqI kd q)
  refine EvX.icmp_ge (off := 37) (tgt := 64) (by decide +kernel) (by decide) (fun hc => ?_) (fun hc => ?_)
  · have h := h.1 hc
    refine EvX.blk (pc' := 67) [(.iinc 5 1, 0, 0)] (by decide +kernel) trivial ?_
    show Ev (d + 1) M_Game_isLesser 0 0 67 [(2, v0), (0, v1), (0, v2), (0, v3), (0, v4), (0, iw (v5 + 1)), (0, v6)] [] kd m3 (zqI kd q)
    refine EvX.goto (off := (-64)) (tgt := 3) (by decide +kernel) (by decide) ?_
    exact EvX.weak (ls2 := [(2, v0), (0, v1), (0, v2), (0, v3), (0, v4), (0, iw (v5 + 1)), zJ]) (zwk_of ⟨Or.inr rfl, Or.inr rfl, Or.inr rfl, Or.inr rfl, Or.inr rfl, Or.inr rfl, Or.inl rfl, trivial⟩) h
  · have h := h.2 hc
    refine EvX.blk (pc' := 38) [(.aload_n 0, 0, 0), (.iload_n 1, 0, 0), (.iload_n 2, 0, 0), (.iload 5, 0, 0), (.iload_n 3, 0, 0), (.iload 6, 0, 0)] (by decide +kernel) trivial ?_
    show Ev (d + 1) M_Game_isLesser 0 0 38 [(2, v0), (0, v1), (0, v2), (0, v3), (0, v4), (0, v5), (0, v6)] [(0, v6), (0, v3), (0, v5), (0, v2), (0, v1), (2, v0)] kd m3 (zqI kd q)
    obtain ⟨ov, h⟩ := h
    obtain ⟨q4, hq, h⟩ := h
    refine EvX.callV (c := 1) (mc := 0) (ms := 0) (as := [(0, v1), (0, v2), (0, v5), (0, v3), (0, v6)]) (st := []) (by decide +kernel) l_Game_93 k_Game_gain v_Game_gain a_Game_gain (by decide) (Nat.le_of_ble_eq_true rfl) rfl ov hq (fun r kd1 m6 hr => ?_)
    obtain ⟨x5, rfl, hk, hr⟩ := hr
    subst kd1
    have h := h x5 m6 hr
    show Ev (d + 1) M_Game_isLesser 0 0 41 [(2, v0), (0, v1), (0, v2), (0, v3), (0, v4), (0, v5), (0, v6)] [(0, x5)] kd m6 (zqI kd q)
    refine EvX.blk (pc' := 50) [(.aload_n 0, 0, 0), (.iload_n 1, 0, 0), (.iload_n 2, 0, 0), (.iload 5, 0, 0), (.iload 4, 0, 0), (.iload 6, 0, 0)] (by decide +kernel) trivial ?_
    show Ev (d + 1) M_Game_isLesser 0 0 50 [(2, v0), (0, v1), (0, v2), (0, v3), (0, v4), (0, v5), (0, v6)] [(0, v6), (0, v4), (0, v5), (0, v2), (0, v1), (2, v0), (0, x5)] kd m6 (zqI kd q)
    obtain ⟨ov, h⟩ := h
    obtain ⟨q7, hq, h⟩ := h
    refine EvX.callV (c := 1) (mc := 0) (ms := 0) (as := [(0, v1), (0, v2), (0, v5), (0, v4), (0, v6)]) (st := [(0, x5)]) (by decide +kernel) l_Game_93 k_Game_gain v_Game_gain a_Game_gain (by decide) (Nat.le_of_ble_eq_true rfl) rfl ov hq (fun r kd1 m9 hr => ?_)
    obtain ⟨x8, rfl, hk, hr⟩ := hr
    subst kd1
    have h := h x8 m9 hr
    show Ev (d + 1) M_Game_isLesser 0 0 53 [(2, v0), (0, v1), (0, v2), (0, v3), (0, v4), (0, v5), (0, v6)] [(0, x8), (0, x5)] kd m9 (zqI kd q)
    refine EvX.icmp_le (off := 5) (tgt := 58) (by decide +kernel) (by decide) (fun hc => ?_) (fun hc => ?_)
    · have h := h.1 hc
      refine EvX.blk (pc' := 61) [(.iinc 6 1, 0, 0)] (by decide +kernel) trivial ?_
      show Ev (d + 1) M_Game_isLesser 0 0 61 [(2, v0), (0, v1), (0, v2), (0, v3), (0, v4), (0, v5), (0, iw (v6 + 1))] [] kd m9 (zqI kd q)
      refine EvX.goto (off := (-43)) (tgt := 18) (by decide +kernel) (by decide) ?_
      exact h
    · have h := h.2 hc
      refine EvX.blk (pc' := 57) [(.iconst 0, 0, 0)] (by decide +kernel) trivial ?_
      show Ev (d + 1) M_Game_isLesser 0 0 57 [(2, v0), (0, v1), (0, v2), (0, v3), (0, v4), (0, v5), (0, v6)] [(0, 0)] kd m9 (zqI kd q)
      exact EvX.ret (r := (0, 0)) (by decide +kernel) ⟨rfl, by decide, by decide⟩ ⟨_, rfl, rfl, h⟩
set_option maxRecDepth 20000 in
set_option maxHeartbeats 1000000 in
theorem T_Game_areSame_0 {d : Nat} {kd : ZK} {m : ZM} {q : Int → ZM → Prop} {v0 v1 v2 v3 : Int} (h : (Ev (d + 1) M_Game_areSame 0 0 3 [(2, v0), (0, v1), (0, v2), (0, v3), (0, 0)] [] kd m (zqI kd q))) : Ev (d + 1) M_Game_areSame 0 0 0 [(2, v0), (0, v1), (0, v2), (0, v3), zJ] [] kd m (zqI kd q) := by
  refine EvX.blk (pc' := 3) [(.iconst 0, 0, 0), (.istore 4, 0, 0)] (by decide +kernel) trivial ?_
  show Ev (d + 1) M_Game_areSame 0 0 3 [(2, v0), (0, v1), (0, v2), (0, v3), (0, 0)] [] kd m (zqI kd q)
  exact h
theorem S_Game_areSame {d : Nat} {kd : ZK} {m : ZM} {q : Int → ZM → Prop} {v0 v1 v2 v3 : Int} (h : (Ev (d + 1) M_Game_areSame 0 0 3 [(2, v0), (0, v1), (0, v2), (0, v3), (0, 0)] [] kd m (zqI kd q))) : CtI (d + 1) M_Game_areSame [(2, v0), (0, v1), (0, v2), (0, v3)] kd m q :=
  Ct.start k_Game_areSame (Nat.le_of_ble_eq_true rfl) ⟨2, Or.inr (Or.inr (Or.inl ⟨rfl, rfl⟩))⟩ (T_Game_areSame_0 h)
set_option maxRecDepth 20000 in
set_option maxHeartbeats 1000000 in
theorem T_Game_areSame_3 {d : Nat} {kd : ZK} {m : ZM} {q : Int → ZM → Prop} {v0 v1 v2 v3 v4 : Int} (h : (zobj kd v0 1 ∧ ∃ q1, CtI d M_Game_questionsOf [(2, v0), (0, iw (1 - v1))] kd m q1 ∧ ∀ x2 m3, q1 x2 m3 → ((x2 ≤ v4 → q 1 m3) ∧ (¬ x2 ≤ v4 → (zobj kd v0 1 ∧ (∃ q4, CtI d M_Ap_cellOf [(0, v1), (0, v2), (0, v4)] kd m3 q4 ∧ ∀ x5 m6, q4 x5 m6 → (zIn kd (m3 v0 4) 0 x5 ∧ zobj kd v0 1 ∧ (∃ q7, CtI d M_Ap_cellOf [(0, v1), (0, v3), (0, v4)] kd m6 q7 ∧ ∀ x8 m9, q7 x8 m9 → (zIn kd (m6 v0 4) 0 x8 ∧ (((m6 (m3 v0 4) x5) ≠ (m9 (m6 v0 4) x8) → q 0 m9) ∧ (¬ (m6 (m3 v0 4) x5) ≠ (m9 (m6 v0 4) x8) → (zobj kd v0 1 ∧ ∃ q10, CtI d M_Game_areSameSpots [(2, v0), (0, v1), (0, v2), (0, v3), (0, v4)] kd m9 q10 ∧ ∀ x11 m12, q10 x11 m12 → ((x11 ≠ 0 → (Ev (d + 1) M_Game_areSame 0 0 3 [(2, v0), (0, v1), (0, v2), (0, v3), (0, iw (v4 + 1))] [] kd m12 (zqI kd q))) ∧ (¬ x11 ≠ 0 → q 0 m12)))))))))))))) : Ev (d + 1) M_Game_areSame 0 0 3 [(2, v0), (0, v1), (0, v2), (0, v3), (0, v4)] [] kd m (zqI kd q) := by
  refine EvX.blk (pc' := 9) [(.iload 4, 0, 0), (.aload_n 0, 0, 0), (.iconst 1, 0, 0), (.iload_n 1, 0, 0), (.isub, 0, 0)] (by decide +kernel) trivial ?_
  show Ev (d + 1) M_Game_areSame 0 0 9 [(2, v0), (0, v1), (0, v2), (0, v3), (0, v4)] [(0, iw (1 - v1)), (2, v0), (0, v4)] kd m (zqI kd q)
  obtain ⟨ov, h⟩ := h
  obtain ⟨q1, hq, h⟩ := h
  refine EvX.callV (c := 1) (mc := 0) (ms := 0) (as := [(0, iw (1 - v1))]) (st := [(0, v4)]) (by decide +kernel) l_Game_56 k_Game_questionsOf v_Game_questionsOf a_Game_questionsOf (by decide) (Nat.le_of_ble_eq_true rfl) rfl ov hq (fun r kd1 m3 hr => ?_)
  obtain ⟨x2, rfl, hk, hr⟩ := hr
  subst kd1
  have h := h x2 m3 hr
  show Ev (d + 1) M_Game_areSame 0 0 12 [(2, v0), (0, v1), (0, v2), (0, v3), (0, v4)] [(0, x2), (0, v4)] kd m3 (zqI kd q)
  refine EvX.icmp_ge (off := 50) (tgt := 62) (by decide +kernel) (by decide) (fun hc => ?_) (fun hc => ?_)
  · have h := h.1 hc
    refine EvX.blk (pc' := 63) [(.iconst 1, 0, 0)] (by decide +kernel) trivial ?_
    show Ev (d + 1) M_Game_areSame 0 0 63 [(2, v0), (0, v1), (0, v2), (0, v3), (0, v4)] [(0, 1)] kd m3 (zqI kd q)
    exact EvX.ret (r := (0, 1)) (by decide +kernel) ⟨rfl, by decide, by decide⟩ ⟨_, rfl, rfl, h⟩
  · have h := h.2 hc
    obtain ⟨o1, h⟩ := h
    refine EvX.blk (pc' := 23) [(.aload_n 0, 0, 0), (.getfield 24, 1, 4), (.iload_n 1, 0, 0), (.iload_n 2, 0, 0), (.iload 4, 0, 0)] (by decide +kernel) ⟨g_Game_24, trivial⟩ ⟨o1, ?_⟩
    show Ev (d + 1) M_Game_areSame 0 0 23 [(2, v0), (0, v1), (0, v2), (0, v3), (0, v4)] [(0, v4), (0, v2), (0, v1), (2, m3 v0 4)] kd m3 (zqI kd q)
    obtain ⟨q4, hq, h⟩ := h
    refine EvX.callS (mc := 0) (ms := 0) (as := [(0, v1), (0, v2), (0, v4)]) (st := [(2, m3 v0 4)]) (by decide +kernel) l_Game_40 k_Ap_cellOf s_Ap_cellOf a_Ap_cellOf (by decide) (Nat.le_of_ble_eq_true rfl) hq (fun r kd1 m6 hr => ?_)
    obtain ⟨x5, rfl, hk, hr⟩ := hr
    subst kd1
    have h := h x5 m6 hr
    show Ev (d + 1) M_Game_areSame 0 0 26 [(2, v0), (0, v1), (0, v2), (0, v3), (0, v4)] [(0, x5), (2, m3 v0 4)] kd m6 (zqI kd q)
    obtain ⟨o1, o2, h⟩ := h
    refine EvX.blk (pc' := 35) [(.iaload, 0, 0), (.aload_n 0, 0, 0), (.getfield 24, 1, 4), (.iload_n 1, 0, 0), (.iload_n 3, 0, 0), (.iload 4, 0, 0)] (by decide +kernel) ⟨g_Game_24, trivial⟩ ⟨o1, o2, ?_⟩
    show Ev (d + 1) M_Game_areSame 0 0 35 [(2, v0), (0, v1), (0, v2), (0, v3), (0, v4)] [(0, v4), (0, v3), (0, v1), (2, m6 v0 4), (0, m6 (m3 v0 4) x5)] kd m6 (zqI kd q)
    obtain ⟨q7, hq, h⟩ := h
    refine EvX.callS (mc := 0) (ms := 0) (as := [(0, v1), (0, v3), (0, v4)]) (st := [(2, m6 v0 4), (0, m6 (m3 v0 4) x5)]) (by decide +kernel) l_Game_40 k_Ap_cellOf s_Ap_cellOf a_Ap_cellOf (by decide) (Nat.le_of_ble_eq_true rfl) hq (fun r kd1 m9 hr => ?_)
    obtain ⟨x8, rfl, hk, hr⟩ := hr
    subst kd1
    have h := h x8 m9 hr
    show Ev (d + 1) M_Game_areSame 0 0 38 [(2, v0), (0, v1), (0, v2), (0, v3), (0, v4)] [(0, x8), (2, m6 v0 4), (0, m6 (m3 v0 4) x5)] kd m9 (zqI kd q)
    obtain ⟨o1, h⟩ := h
    refine EvX.blk (pc' := 39) [(.iaload, 0, 0)] (by decide +kernel) trivial ⟨o1, ?_⟩
    show Ev (d + 1) M_Game_areSame 0 0 39 [(2, v0), (0, v1), (0, v2), (0, v3), (0, v4)] [(0, m9 (m6 v0 4) x8), (0, m6 (m3 v0 4) x5)] kd m9 (zqI kd q)
    refine EvX.icmp_ne (off := 15) (tgt := 54) (by decide +kernel) (by decide) (fun hc => ?_) (fun hc => ?_)
    · have h := h.1 hc
      refine EvX.blk (pc' := 55) [(.iconst 0, 0, 0)] (by decide +kernel) trivial ?_
      show Ev (d + 1) M_Game_areSame 0 0 55 [(2, v0), (0, v1), (0, v2), (0, v3), (0, v4)] [(0, 0)] kd m9 (zqI kd q)
      exact EvX.ret (r := (0, 0)) (by decide +kernel) ⟨rfl, by decide, by decide⟩ ⟨_, rfl, rfl, h⟩
    · have h := h.2 hc
      refine EvX.blk (pc' := 48) [(.aload_n 0, 0, 0), (.iload_n 1, 0, 0), (.iload_n 2, 0, 0), (.iload_n 3, 0, 0), (.iload 4, 0, 0)] (by decide +kernel) trivial ?_
      show Ev (d + 1) M_Game_areSame 0 0 48 [(2, v0), (0, v1), (0, v2), (0, v3), (0, v4)] [(0, v4), (0, v3), (0, v2), (0, v1), (2, v0)] kd m9 (zqI kd q)
      obtain ⟨ov, h⟩ := h
      obtain ⟨q10, hq, h⟩ := h
      refine EvX.callV (c := 1) (mc := 0) (ms := 0) (as := [(0, v1), (0, v2), (0, v3), (0, v4)]) (st := []) (by decide +kernel) l_Game_96 k_Game_areSameSpots v_Game_areSameSpots a_Game_areSameSpots (by decide) (Nat.le_of_ble_eq_true rfl) rfl ov hq (fun r kd1 m12 hr => ?_)
      obtain ⟨x11, rfl, hk, hr⟩ := hr
      subst kd1
      have h := h x11 m12 hr
      show Ev (d + 1) M_Game_areSame 0 0 51 [(2, v0), (0, v1), (0, v2), (0, v3), (0, v4)] [(0, x11)] kd m12 (zqI kd q)
      refine EvX.if_ne (off := 5) (tgt := 56) (by decide +kernel) (by decide) (fun hc => ?_) (fun hc => ?_)
      · have h := h.1 hc
        refine EvX.blk (pc' := 59) [(.iinc 4 1, 0, 0)] (by decide +kernel) trivial ?_
        show Ev (d + 1) M_Game_areSame 0 0 59 [(2, v0), (0, v1), (0, v2), (0, v3), (0, iw (v4 + 1))] [] kd m12 (zqI kd q)
        refine EvX.goto (off := (-56)) (tgt := 3) (by decide +kernel) (by decide) ?_
        exact h
      · have h := h.2 hc
        refine EvX.blk (pc' := 55) [(.iconst 0, 0, 0)] (by decide +kernel) trivial ?_
        show Ev (d + 1) M_Game_areSame 0 0 55 [(2, v0), (0, v1), (0, v2), (0, v3), (0, v4)] [(0, 0)] kd m12 (zqI kd q)
        exact EvX.ret (r := (0, 0)) (by decide +kernel) ⟨rfl, by decide, by decide⟩ ⟨_, rfl, rfl, h⟩
set_option maxRecDepth 20000 in
set_option maxHeartbeats 1000000 in
theorem T_Game_areSameSpots_0 {d : Nat} {kd : ZK} {m : ZM} {q : Int → ZM → Prop} {v0 v1 v2 v3 v4 : Int} (h : (Ev (d + 1) M_Game_areSameSpots 0 0 3 [(2, v0), (0, v1), (0, v2), (0, v3), (0, v4), (0, 0), zJ, zJ, zJ] [] kd m (zqI kd q))) : Ev (d + 1) M_Game_areSameSpots 0 0 0 [(2, v0), (0, v1), (0, v2), (0, v3), (0, v4), zJ, zJ, zJ, zJ] [] kd m (zqI kd q) := by
  refine EvX.blk (pc' := 3) [(.iconst 0, 0, 0), (.istore 5, 0, 0)] (by decide +kernel) trivial ?_
  show Ev (d + 1) M_Game_areSameSpots 0 0 3 [(2, v0), (0, v1), (0, v2), (0, v3), (0, v4), (0, 0), zJ, zJ, zJ] [] kd m (zqI kd q)
  exact h
theorem S_Game_areSameSpots {d : Nat} {kd : ZK} {m : ZM} {q : Int → ZM → Prop} {v0 v1 v2 v3 v4 : Int} (h : (Ev (d + 1) M_Game_areSameSpots 0 0 3 [(2, v0), (0, v1), (0, v2), (0, v3), (0, v4), (0, 0), zJ, zJ, zJ] [] kd m (zqI kd q))) : CtI (d + 1) M_Game_areSameSpots [(2, v0), (0, v1), (0, v2), (0, v3), (0, v4)] kd m q :=
  Ct.start k_Game_areSameSpots (Nat.le_of_ble_eq_true rfl) ⟨2, Or.inr (Or.inr (Or.inl ⟨rfl, rfl⟩))⟩ (T_Game_areSameSpots_0 h)
set_option maxRecDepth 20000 in
set_option maxHeartbeats 1000000 in
theorem T_Game_areSameSpots_3 {d : Nat} {kd : ZK} {m : ZM} {q : Int → ZM → Prop} {v0 v1 v2 v3 v4 v5 : Int} (h : (zobj kd v0 1 ∧ ∃ q1, CtI d M_Game_answersOf [(2, v0), (0, v1)] kd m q1 ∧ ∀ x2 m3, q1 x2 m3 → ((x2 ≤ v5 → q 1 m3) ∧ (¬ x2 ≤ v5 → (Ev (d + 1) M_Game_areSameSpots 0 0 16 [(2, v0), (0, v1), (0, v2), (0, v3), (0, v4), (0, v5), (0, 0), zJ, zJ] [] kd m3 (zqI kd q)))))) : Ev (d + 1) M_Game_areSameSpots 0 0 3 [(2, v0), (0, v1), (0, v2), (0, v3), (0, v4), (0, v5), zJ, zJ, zJ] [] kd m (zqI kd q) := by
  refine EvX.blk (pc' := 7) [(.iload 5, 0, 0), (.aload_n 0, 0, 0), (.iload_n 1, 0, 0)] (by decide +kernel) trivial ?_
  show Ev (d + 1) M_Game_areSameSpots 0 0 7 [(2, v0), (0, v1), (0, v2), (0, v3), (0, v4), (0, v5), zJ, zJ, zJ] [(0, v1), (2, v0), (0, v5)] kd m (zqI kd q)
  obtain ⟨ov, h⟩ := h
  obtain ⟨q1, hq, h⟩ := h
  refine EvX.callV (c := 1) (mc := 0) (ms := 0) (as := [(0, v1)]) (st := [(0, v5)]) (by decide +kernel) l_Game_60 k_Game_answersOf v_Game_answersOf a_Game_answersOf (by decide) (Nat.le_of_ble_eq_true rfl) rfl ov hq (fun r kd1 m3 hr => ?_)
  obtain ⟨x2, rfl, hk, hr⟩ := hr
  subst kd1
  have h := h x2 m3 hr
  show Ev (d + 1) M_Game_areSameSpots 0 0 10 [(2, v0), (0, v1), (0, v2), (0, v3), (0, v4), (0, v5), zJ, zJ, zJ] [(0, x2), (0, v5)] kd m3 (zqI kd q)
  refine EvX.icmp_ge (off := 92) (tgt := 102) (by decide +kernel) (by decide) (fun hc => ?_) (fun hc => ?_)
  · have h := h.1 hc
    refine EvX.blk (pc' := 103) [(.iconst 1, 0, 0)] (by decide +kernel) trivial ?_
    show Ev (d + 1) M_Game_areSameSpots 0 0 103 [(2, v0), (0, v1), (0, v2), (0, v3), (0, v4), (0, v5), zJ, zJ, zJ] [(0, 1)] kd m3 (zqI kd q)
    exact EvX.ret (r := (0, 1)) (by decide +kernel) ⟨rfl, by decide, by decide⟩ ⟨_, rfl, rfl, h⟩
  · have h := h.2 hc
    refine EvX.blk (pc' := 16) [(.iconst 0, 0, 0), (.istore 6, 0, 0)] (by decide +kernel) trivial ?_
    show Ev (d + 1) M_Game_areSameSpots 0 0 16 [(2, v0), (0, v1), (0, v2), (0, v3), (0, v4), (0, v5), (0, 0), zJ, zJ] [] kd m3 (zqI kd q)
    exact h
set_option maxRecDepth 20000 in
set_option maxHeartbeats 1000000 in
theorem T_Game_areSameSpots_16 {d : Nat} {kd : ZK} {m : ZM} {q : Int → ZM → Prop} {v0 v1 v2 v3 v4 v5 v6 : Int} (h : (zobj kd v0 1 ∧ ∃ q1, CtI d M_Game_answersOf [(2, v0), (0, iw (1 - v1))] kd m q1 ∧ ∀ x2 m3, q1 x2 m3 → ((x2 ≤ v6 → (Ev (d + 1) M_Game_areSameSpots 0 0 3 [(2, v0), (0, v1), (0, v2), (0, v3), (0, v4), (0, iw (v5 + 1)), zJ, zJ, zJ] [] kd m3 (zqI kd q))) ∧ (¬ x2 ≤ v6 → (∃ q4, CtI d M_Ap_spotOf [(0, v1), (0, v2), (0, v4), (0, v5), (0, v6)] kd m3 q4 ∧ ∀ x5 m6, q4 x5 m6 → (∃ q7, CtI d M_Ap_spotOf [(0, v1), (0, v3), (0, v4), (0, v5), (0, v6)] kd m6 q7 ∧ ∀ x8 m9, q7 x8 m9 → (zobj kd v0 1 ∧ zIn kd (m9 v0 5) 0 x5 ∧ zobj kd v0 1 ∧ zIn kd (m9 v0 5) 0 x8 ∧ (((m9 (m9 v0 5) x5) ≠ (m9 (m9 v0 5) x8) → q 0 m9) ∧ (¬ (m9 (m9 v0 5) x5) ≠ (m9 (m9 v0 5) x8) → (zobj kd v0 1 ∧ zIn kd (m9 v0 6) 0 x5 ∧ zobj kd v0 1 ∧ zIn kd (m9 v0 6) 0 x8 ∧ (((m9 (m9 v0 6) x5) = (m9 (m9 v0 6) x8) → (Ev (d + 1) M_Game_areSameSpots 0 0 16 [(2, v0), (0, v1), (0, v2), (0, v3), (0, v4), (0, v5), (0, iw (v6 + 1)), zJ, zJ] [] kd m9 (zqI kd q))) ∧ (¬ (m9 (m9 v0 6) x5) = (m9 (m9 v0 6) x8) → q 0 m9)))))))))))) : Ev (d + 1) M_Game_areSameSpots 0 0 16 [(2, v0), (0, v1), (0, v2), (0, v3), (0, v4), (0, v5), (0, v6), zJ, zJ] [] kd m (zqI kd q) := by
  refine EvX.blk (pc' := 22) [(.iload 6, 0, 0), (.aload_n 0, 0, 0), (.iconst 1, 0, 0), (.iload_n 1, 0, 0), (.isub, 0, 0)] (by decide +kernel) trivial ?_
  show Ev (d + 1) M_Game_areSameSpots 0 0 22 [(2, v0), (0, v1), (0, v2), (0, v3), (0, v4), (0, v5), (0, v6), zJ, zJ] [(0, iw (1 - v1)), (2, v0), (0, v6)] kd m (zqI kd q)
  obtain ⟨ov, h⟩ := h
  obtain ⟨q1, hq, h⟩ := h
  refine EvX.callV (c := 1) (mc := 0) (ms := 0) (as := [(0, iw (1 - v1))]) (st := [(0, v6)]) (by decide +kernel) l_Game_60 k_Game_answersOf v_Game_answersOf a_Game_answersOf (by decide) (Nat.le_of_ble_eq_true rfl) rfl ov hq (fun r kd1 m3 hr => ?_)
  obtain ⟨x2, rfl, hk, hr⟩ := hr
  subst kd1
  have h := h x2 m3 hr
  show Ev (d + 1) M_Game_areSameSpots 0 0 25 [(2, v0), (0, v1), (0, v2), (0, v3), (0, v4), (0, v5), (0, v6), zJ, zJ] [(0, x2), (0, v6)] kd m3 (zqI kd q)
  refine EvX.icmp_ge (off := 71) (tgt := 96) (by decide +kernel) (by decide) (fun hc => ?_) (fun hc => ?_)
  · have h := h.1 hc
    refine EvX.blk (pc' := 99) [(.iinc 5 1, 0, 0)] (by decide +kernel) trivial ?_
    show Ev (d + 1) M_Game_areSameSpots 0 0 99 [(2, v0), (0, v1), (0, v2), (0, v3), (0, v4), (0, iw (v5 + 1)), (0, v6), zJ, zJ] [] kd m3 (zqI kd q)
    refine EvX.goto (off := (-96)) (tgt := 3) (by decide +kernel) (by decide) ?_
    exact EvX.weak (ls2 := [(2, v0), (0, v1), (0, v2), (0, v3), (0, v4), (0, iw (v5 + 1)), zJ, zJ, zJ]) (zwk_of ⟨Or.inr rfl, Or.inr rfl, Or.inr rfl, Or.inr rfl, Or.inr rfl, Or.inr rfl, Or.inl rfl, Or.inl rfl, Or.inl rfl, trivial⟩) h
  · have h := h.2 hc
    refine EvX.blk (pc' := 36) [(.iload_n 1, 0, 0), (.iload_n 2, 0, 0), (.iload 4, 0, 0), (.iload 5, 0, 0), (.iload 6, 0, 0)] (by decide +kernel) trivial ?_
    show Ev (d + 1) M_Game_areSameSpots 0 0 36 [(2, v0), (0, v1), (0, v2), (0, v3), (0, v4), (0, v5), (0, v6), zJ, zJ] [(0, v6), (0, v5), (0, v4), (0, v2), (0, v1)] kd m3 (zqI kd q)
    obtain ⟨q4, hq, h⟩ := h
    refine EvX.callS (mc := 0) (ms := 0) (as := [(0, v1), (0, v2), (0, v4), (0, v5), (0, v6)]) (st := []) (by decide +kernel) l_Game_48 k_Ap_spotOf s_Ap_spotOf a_Ap_spotOf (by decide) (Nat.le_of_ble_eq_true rfl) hq (fun r kd1 m6 hr => ?_)
    obtain ⟨x5, rfl, hk, hr⟩ := hr
    subst kd1
    have h := h x5 m6 hr
    show Ev (d + 1) M_Game_areSameSpots 0 0 39 [(2, v0), (0, v1), (0, v2), (0, v3), (0, v4), (0, v5), (0, v6), zJ, zJ] [(0, x5)] kd m6 (zqI kd q)
    refine EvX.blk (pc' := 49) [(.istore 7, 0, 0), (.iload_n 1, 0, 0), (.iload_n 3, 0, 0), (.iload 4, 0, 0), (.iload 5, 0, 0), (.iload 6, 0, 0)] (by decide +kernel) trivial ?_
    show Ev (d + 1) M_Game_areSameSpots 0 0 49 [(2, v0), (0, v1), (0, v2), (0, v3), (0, v4), (0, v5), (0, v6), (0, x5), zJ] [(0, v6), (0, v5), (0, v4), (0, v3), (0, v1)] kd m6 (zqI kd q)
    obtain ⟨q7, hq, h⟩ := h
    refine EvX.callS (mc := 0) (ms := 0) (as := [(0, v1), (0, v3), (0, v4), (0, v5), (0, v6)]) (st := []) (by decide +kernel) l_Game_48 k_Ap_spotOf s_Ap_spotOf a_Ap_spotOf (by decide) (Nat.le_of_ble_eq_true rfl) hq (fun r kd1 m9 hr => ?_)
    obtain ⟨x8, rfl, hk, hr⟩ := hr
    subst kd1
    have h := h x8 m9 hr
    show Ev (d + 1) M_Game_areSameSpots 0 0 52 [(2, v0), (0, v1), (0, v2), (0, v3), (0, v4), (0, v5), (0, v6), (0, x5), zJ] [(0, x8)] kd m9 (zqI kd q)
    obtain ⟨o1, o2, o3, o4, h⟩ := h
    refine EvX.blk (pc' := 68) [(.istore 8, 0, 0), (.aload_n 0, 0, 0), (.getfield 28, 1, 5), (.iload 7, 0, 0), (.iaload, 0, 0), (.aload_n 0, 0, 0), (.getfield 28, 1, 5), (.iload 8, 0, 0), (.iaload, 0, 0)] (by decide +kernel) ⟨g_Game_28, g_Game_28, trivial⟩ ⟨o1, o2, o3, o4, ?_⟩
    show Ev (d + 1) M_Game_areSameSpots 0 0 68 [(2, v0), (0, v1), (0, v2), (0, v3), (0, v4), (0, v5), (0, v6), (0, x5), (0, x8)] [(0, m9 (m9 v0 5) x8), (0, m9 (m9 v0 5) x5)] kd m9 (zqI kd q)
    refine EvX.icmp_ne (off := 20) (tgt := 88) (by decide +kernel) (by decide) (fun hc => ?_) (fun hc => ?_)
    · have h := h.1 hc
      refine EvX.blk (pc' := 89) [(.iconst 0, 0, 0)] (by decide +kernel) trivial ?_
      show Ev (d + 1) M_Game_areSameSpots 0 0 89 [(2, v0), (0, v1), (0, v2), (0, v3), (0, v4), (0, v5), (0, v6), (0, x5), (0, x8)] [(0, 0)] kd m9 (zqI kd q)
      exact EvX.ret (r := (0, 0)) (by decide +kernel) ⟨rfl, by decide, by decide⟩ ⟨_, rfl, rfl, h⟩
    · have h := h.2 hc
      obtain ⟨o1, o2, o3, o4, h⟩ := h
      refine EvX.blk (pc' := 85) [(.aload_n 0, 0, 0), (.getfield 31, 1, 6), (.iload 7, 0, 0), (.iaload, 0, 0), (.aload_n 0, 0, 0), (.getfield 31, 1, 6), (.iload 8, 0, 0), (.iaload, 0, 0)] (by decide +kernel) ⟨g_Game_31, g_Game_31, trivial⟩ ⟨o1, o2, o3, o4, ?_⟩
      show Ev (d + 1) M_Game_areSameSpots 0 0 85 [(2, v0), (0, v1), (0, v2), (0, v3), (0, v4), (0, v5), (0, v6), (0, x5), (0, x8)] [(0, m9 (m9 v0 6) x8), (0, m9 (m9 v0 6) x5)] kd m9 (zqI kd q)
      refine EvX.icmp_eq (off := 5) (tgt := 90) (by decide +kernel) (by decide) (fun hc => ?_) (fun hc => ?_)
      · have h := h.1 hc
        refine EvX.blk (pc' := 93) [(.iinc 6 1, 0, 0)] (by decide +kernel) trivial ?_
        show Ev (d + 1) M_Game_areSameSpots 0 0 93 [(2, v0), (0, v1), (0, v2), (0, v3), (0, v4), (0, v5), (0, iw (v6 + 1)), (0, x5), (0, x8)] [] kd m9 (zqI kd q)
        refine EvX.goto (off := (-77)) (tgt := 16) (by decide +kernel) (by decide) ?_
        exact EvX.weak (ls2 := [(2, v0), (0, v1), (0, v2), (0, v3), (0, v4), (0, v5), (0, iw (v6 + 1)), zJ, zJ]) (zwk_of ⟨Or.inr rfl, Or.inr rfl, Or.inr rfl, Or.inr rfl, Or.inr rfl, Or.inr rfl, Or.inr rfl, Or.inl rfl, Or.inl rfl, trivial⟩) h
      · have h := h.2 hc
        refine EvX.blk (pc' := 89) [(.iconst 0, 0, 0)] (by decide +kernel) trivial ?_
        show Ev (d + 1) M_Game_areSameSpots 0 0 89 [(2, v0), (0, v1), (0, v2), (0, v3), (0, v4), (0, v5), (0, v6), (0, x5), (0, x8)] [(0, 0)] kd m9 (zqI kd q)
        exact EvX.ret (r := (0, 0)) (by decide +kernel) ⟨rfl, by decide, by decide⟩ ⟨_, rfl, rfl, h⟩
set_option maxRecDepth 20000 in
set_option maxHeartbeats 1000000 in
theorem T_Game_signAt_0 {d : Nat} {kd : ZK} {m : ZM} {q : Int → ZM → Prop} {v0 v1 v2 : Int} (h : (Ev (d + 1) M_Game_signAt 0 0 8 [(2, v0), (0, v1), (0, v2), (0, 0), (0, 0), (0, 0), zJ, zJ] [] kd m (zqI kd q))) : Ev (d + 1) M_Game_signAt 0 0 0 [(2, v0), (0, v1), (0, v2), zJ, zJ, zJ, zJ, zJ] [] kd m (zqI kd q) := by
  refine EvX.blk (pc' := 8) [(.iconst 0, 0, 0), (.istore_n 3, 0, 0), (.iconst 0, 0, 0), (.istore 4, 0, 0), (.iconst 0, 0, 0), (.istore 5, 0, 0)] (by decide +kernel) trivial ?_
  show Ev (d + 1) M_Game_signAt 0 0 8 [(2, v0), (0, v1), (0, v2), (0, 0), (0, 0), (0, 0), zJ, zJ] [] kd m (zqI kd q)
  exact h
theorem S_Game_signAt {d : Nat} {kd : ZK} {m : ZM} {q : Int → ZM → Prop} {v0 v1 v2 : Int} (h : (Ev (d + 1) M_Game_signAt 0 0 8 [(2, v0), (0, v1), (0, v2), (0, 0), (0, 0), (0, 0), zJ, zJ] [] kd m (zqI kd q))) : CtI (d + 1) M_Game_signAt [(2, v0), (0, v1), (0, v2)] kd m q :=
  Ct.start k_Game_signAt (Nat.le_of_ble_eq_true rfl) ⟨1, Or.inr (Or.inl ⟨rfl, rfl⟩)⟩ (T_Game_signAt_0 h)
set_option maxRecDepth 20000 in
set_option maxHeartbeats 1000000 in
theorem T_Game_signAt_8 {d : Nat} {kd : ZK} {m : ZM} {q : Int → ZM → Prop} {v0 v1 v2 v3 v4 v5 : Int} (h : (zobj kd v0 1 ∧ (((m v0 2) ≤ v5 → ((v4 ≠ 0 → ((v3 ≠ 0 → q 0 m) ∧ (¬ v3 ≠ 0 → q (-1) m))) ∧ (¬ v4 ≠ 0 → q 1 m))) ∧ (¬ (m v0 2) ≤ v5 → (Ev (d + 1) M_Game_signAt 0 0 20 [(2, v0), (0, v1), (0, v2), (0, v3), (0, v4), (0, v5), (0, 0), zJ] [] kd m (zqI kd q)))))) : Ev (d + 1) M_Game_signAt 0 0 8 [(2, v0), (0, v1), (0, v2), (0, v3), (0, v4), (0, v5), zJ, zJ] [] kd m (zqI kd q) := by
  obtain ⟨o1, h⟩ := h
  refine EvX.blk (pc' := 14) [(.iload 5, 0, 0), (.aload_n 0, 0, 0), (.getfield 18, 1, 2)] (by decide +kernel) ⟨g_Game_18, trivial⟩ ⟨o1, ?_⟩
  show Ev (d + 1) M_Game_signAt 0 0 14 [(2, v0), (0, v1), (0, v2), (0, v3), (0, v4), (0, v5), zJ, zJ] [(0, m v0 2), (0, v5)] kd m (zqI kd q)
  refine EvX.icmp_ge (off := 82) (tgt := 96) (by decide +kernel) (by decide) (fun hc => ?_) (fun hc => ?_)
  · have h := h.1 hc
    refine EvX.blk (pc' := 98) [(.iload 4, 0, 0)] (by decide +kernel) trivial ?_
    show Ev (d + 1) M_Game_signAt 0 0 98 [(2, v0), (0, v1), (0, v2), (0, v3), (0, v4), (0, v5), zJ, zJ] [(0, v4)] kd m (zqI kd q)
    refine EvX.if_ne (off := 5) (tgt := 103) (by decide +kernel) (by decide) (fun hc => ?_) (fun hc => ?_)
    · have h := h.1 hc
      refine EvX.blk (pc' := 104) [(.iload_n 3, 0, 0)] (by decide +kernel) trivial ?_
      show Ev (d + 1) M_Game_signAt 0 0 104 [(2, v0), (0, v1), (0, v2), (0, v3), (0, v4), (0, v5), zJ, zJ] [(0, v3)] kd m (zqI kd q)
      refine EvX.if_ne (off := 7) (tgt := 111) (by decide +kernel) (by decide) (fun hc => ?_) (fun hc => ?_)
      · have h := h.1 hc
        refine EvX.blk (pc' := 112) [(.iconst 0, 0, 0)] (by decide +kernel) trivial ?_
        show Ev (d + 1) M_Game_signAt 0 0 112 [(2, v0), (0, v1), (0, v2), (0, v3), (0, v4), (0, v5), zJ, zJ] [(0, 0)] kd m (zqI kd q)
        exact EvX.ret (r := (0, 0)) (by decide +kernel) rfl ⟨_, rfl, rfl, h⟩
      · have h := h.2 hc
        refine EvX.blk (pc' := 108) [(.iconst (-1), 0, 0)] (by decide +kernel) trivial ?_
        show Ev (d + 1) M_Game_signAt 0 0 108 [(2, v0), (0, v1), (0, v2), (0, v3), (0, v4), (0, v5), zJ, zJ] [(0, (-1))] kd m (zqI kd q)
        refine EvX.goto (off := 4) (tgt := 112) (by decide +kernel) (by decide) ?_
        exact EvX.ret (r := (0, (-1))) (by decide +kernel) rfl ⟨_, rfl, rfl, h⟩
    · have h := h.2 hc
      refine EvX.blk (pc' := 102) [(.iconst 1, 0, 0)] (by decide +kernel) trivial ?_
      show Ev (d + 1) M_Game_signAt 0 0 102 [(2, v0), (0, v1), (0, v2), (0, v3), (0, v4), (0, v5), zJ, zJ] [(0, 1)] kd m (zqI kd q)
      exact EvX.ret (r := (0, 1)) (by decide +kernel) rfl ⟨_, rfl, rfl, h⟩
  · have h := h.2 hc
    refine EvX.blk (pc' := 20) [(.iconst 0, 0, 0), (.istore 6, 0, 0)] (by decide +kernel) trivial ?_
    show Ev (d + 1) M_Game_signAt 0 0 20 [(2, v0), (0, v1), (0, v2), (0, v3), (0, v4), (0, v5), (0, 0), zJ] [] kd m (zqI kd q)
    exact h
set_option maxRecDepth 20000 in
set_option maxHeartbeats 1000000 in
theorem T_Game_signAt_20 {d : Nat} {kd : ZK} {m : ZM} {q : Int → ZM → Prop} {v0 v1 v2 v3 v4 v5 v6 : Int} (h : (zobj kd v0 1 ∧ (((m v0 3) ≤ v6 → (Ev (d + 1) M_Game_signAt 0 0 8 [(2, v0), (0, v1), (0, v2), (0, v3), (0, v4), (0, iw (v5 + 1)), zJ, zJ] [] kd m (zqI kd q))) ∧ (¬ (m v0 3) ≤ v6 → (zobj kd v0 1 ∧ (∃ q1, CtI d M_Ap_spotOf [(0, 0), (0, v1), (0, v2), (0, v5), (0, v6)] kd m q1 ∧ ∀ x2 m3, q1 x2 m3 → (zIn kd (m v0 5) 0 x2 ∧ (((m3 (m v0 5) x2) ≠ 1 → (Ev (d + 1) M_Game_signAt 0 0 53 [(2, v0), (0, v1), (0, v2), (0, v3), (0, v4), (0, v5), (0, v6), zJ] [(0, 0)] kd m3 (zqI kd q))) ∧ (¬ (m3 (m v0 5) x2) ≠ 1 → (Ev (d + 1) M_Game_signAt 0 0 53 [(2, v0), (0, v1), (0, v2), (0, v3), (0, v4), (0, v5), (0, v6), zJ] [(0, 1)] kd m3 (zqI kd q))))))))))) : Ev (d + 1) M_Game_signAt 0 0 20 [(2, v0), (0, v1), (0, v2), (0, v3), (0, v4), (0, v5), (0, v6), zJ] [] kd m (zqI kd q) := by
  obtain ⟨o1, h⟩ := h
  refine EvX.blk (pc' := 26) [(.iload 6, 0, 0), (.aload_n 0, 0, 0), (.getfield 21, 1, 3)] (by decide +kernel) ⟨g_Game_21, trivial⟩ ⟨o1, ?_⟩
  show Ev (d + 1) M_Game_signAt 0 0 26 [(2, v0), (0, v1), (0, v2), (0, v3), (0, v4), (0, v5), (0, v6), zJ] [(0, m v0 3), (0, v6)] kd m (zqI kd q)
  refine EvX.icmp_ge (off := 64) (tgt := 90) (by decide +kernel) (by decide) (fun hc => ?_) (fun hc => ?_)
  · have h := h.1 hc
    refine EvX.blk (pc' := 93) [(.iinc 5 1, 0, 0)] (by decide +kernel) trivial ?_
    show Ev (d + 1) M_Game_signAt 0 0 93 [(2, v0), (0, v1), (0, v2), (0, v3), (0, v4), (0, iw (v5 + 1)), (0, v6), zJ] [] kd m (zqI kd q)
    refine EvX.goto (off := (-85)) (tgt := 8) (by decide +kernel) (by decide) ?_
    exact EvX.weak (ls2 := [(2, v0), (0, v1), (0, v2), (0, v3), (0, v4), (0, iw (v5 + 1)), zJ, zJ]) (zwk_of ⟨Or.inr rfl, Or.inr rfl, Or.inr rfl, Or.inr rfl, Or.inr rfl, Or.inr rfl, Or.inl rfl, Or.inl rfl, trivial⟩) h
  · have h := h.2 hc
    obtain ⟨o1, h⟩ := h
    refine EvX.blk (pc' := 40) [(.aload_n 0, 0, 0), (.getfield 28, 1, 5), (.iconst 0, 0, 0), (.iload_n 1, 0, 0), (.iload_n 2, 0, 0), (.iload 5, 0, 0), (.iload 6, 0, 0)] (by decide +kernel) ⟨g_Game_28, trivial⟩ ⟨o1, ?_⟩
    show Ev (d + 1) M_Game_signAt 0 0 40 [(2, v0), (0, v1), (0, v2), (0, v3), (0, v4), (0, v5), (0, v6), zJ] [(0, v6), (0, v5), (0, v2), (0, v1), (0, 0), (2, m v0 5)] kd m (zqI kd q)
    obtain ⟨q1, hq, h⟩ := h
    refine EvX.callS (mc := 0) (ms := 0) (as := [(0, 0), (0, v1), (0, v2), (0, v5), (0, v6)]) (st := [(2, m v0 5)]) (by decide +kernel) l_Game_48 k_Ap_spotOf s_Ap_spotOf a_Ap_spotOf (by decide) (Nat.le_of_ble_eq_true rfl) hq (fun r kd1 m3 hr => ?_)
    obtain ⟨x2, rfl, hk, hr⟩ := hr
    subst kd1
    have h := h x2 m3 hr
    show Ev (d + 1) M_Game_signAt 0 0 43 [(2, v0), (0, v1), (0, v2), (0, v3), (0, v4), (0, v5), (0, v6), zJ] [(0, x2), (2, m v0 5)] kd m3 (zqI kd q)
    obtain ⟨o1, h⟩ := h
    refine EvX.blk (pc' := 45) [(.iaload, 0, 0), (.iconst 1, 0, 0)] (by decide +kernel) trivial ⟨o1, ?_⟩
    show Ev (d + 1) M_Game_signAt 0 0 45 [(2, v0), (0, v1), (0, v2), (0, v3), (0, v4), (0, v5), (0, v6), zJ] [(0, 1), (0, m3 (m v0 5) x2)] kd m3 (zqI kd q)
    refine EvX.icmp_ne (off := 7) (tgt := 52) (by decide +kernel) (by decide) (fun hc => ?_) (fun hc => ?_)
    · have h := h.1 hc
      refine EvX.blk (pc' := 53) [(.iconst 0, 0, 0)] (by decide +kernel) trivial ?_
      show Ev (d + 1) M_Game_signAt 0 0 53 [(2, v0), (0, v1), (0, v2), (0, v3), (0, v4), (0, v5), (0, v6), zJ] [(0, 0)] kd m3 (zqI kd q)
      exact h
    · have h := h.2 hc
      refine EvX.blk (pc' := 49) [(.iconst 1, 0, 0)] (by decide +kernel) trivial ?_
      show Ev (d + 1) M_Game_signAt 0 0 49 [(2, v0), (0, v1), (0, v2), (0, v3), (0, v4), (0, v5), (0, v6), zJ] [(0, 1)] kd m3 (zqI kd q)
      refine EvX.goto (off := 4) (tgt := 53) (by decide +kernel) (by decide) ?_
      exact h
set_option maxRecDepth 20000 in
set_option maxHeartbeats 1000000 in
theorem T_Game_signAt_53 {d : Nat} {kd : ZK} {m : ZM} {q : Int → ZM → Prop} {v0 v1 v2 v3 v4 v5 v6 s0 : Int} (h : (((Int.tmod (iw (v5 + v6)) 2) ≠ 0 → ((s0 ≠ 0 → (Ev (d + 1) M_Game_signAt 0 0 20 [(2, v0), (0, v1), (0, v2), (0, v3), (0, iw (v4 + 1)), (0, v5), (0, iw (v6 + 1)), zJ] [] kd m (zqI kd q))) ∧ (¬ s0 ≠ 0 → (Ev (d + 1) M_Game_signAt 0 0 20 [(2, v0), (0, v1), (0, v2), (0, iw (v3 + 1)), (0, v4), (0, v5), (0, iw (v6 + 1)), zJ] [] kd m (zqI kd q))))) ∧ (¬ (Int.tmod (iw (v5 + v6)) 2) ≠ 0 → ((s0 ≠ 1 → (Ev (d + 1) M_Game_signAt 0 0 20 [(2, v0), (0, v1), (0, v2), (0, v3), (0, iw (v4 + 1)), (0, v5), (0, iw (v6 + 1)), zJ] [] kd m (zqI kd q))) ∧ (¬ s0 ≠ 1 → (Ev (d + 1) M_Game_signAt 0 0 20 [(2, v0), (0, v1), (0, v2), (0, iw (v3 + 1)), (0, v4), (0, v5), (0, iw (v6 + 1)), zJ] [] kd m (zqI kd q))))))) : Ev (d + 1) M_Game_signAt 0 0 53 [(2, v0), (0, v1), (0, v2), (0, v3), (0, v4), (0, v5), (0, v6), zJ] [(0, s0)] kd m (zqI kd q) := by
  refine EvX.blk (pc' := 64) [(.istore 7, 0, 0), (.iload 7, 0, 0), (.iload 5, 0, 0), (.iload 6, 0, 0), (.iadd, 0, 0), (.iconst 2, 0, 0), (.irem, 0, 0)] (by decide +kernel) trivial ⟨by decide, ?_⟩
  show Ev (d + 1) M_Game_signAt 0 0 64 [(2, v0), (0, v1), (0, v2), (0, v3), (0, v4), (0, v5), (0, v6), (0, s0)] [(0, Int.tmod (iw (v5 + v6)) 2), (0, s0)] kd m (zqI kd q)
  refine EvX.if_ne (off := 7) (tgt := 71) (by decide +kernel) (by decide) (fun hc => ?_) (fun hc => ?_)
  · have h := h.1 hc
    refine EvX.blk (pc' := 72) [(.iconst 0, 0, 0)] (by decide +kernel) trivial ?_
    show Ev (d + 1) M_Game_signAt 0 0 72 [(2, v0), (0, v1), (0, v2), (0, v3), (0, v4), (0, v5), (0, v6), (0, s0)] [(0, 0), (0, s0)] kd m (zqI kd q)
    refine EvX.icmp_ne (off := 9) (tgt := 81) (by decide +kernel) (by decide) (fun hc => ?_) (fun hc => ?_)
    · have h := h.1 hc
      refine EvX.blk (pc' := 87) [(.iinc 4 1, 0, 0), (.iinc 6 1, 0, 0)] (by decide +kernel) trivial ?_
      show Ev (d + 1) M_Game_signAt 0 0 87 [(2, v0), (0, v1), (0, v2), (0, v3), (0, iw (v4 + 1)), (0, v5), (0, iw (v6 + 1)), (0, s0)] [] kd m (zqI kd q)
      refine EvX.goto (off := (-67)) (tgt := 20) (by decide +kernel) (by decide) ?_
      exact EvX.weak (ls2 := [(2, v0), (0, v1), (0, v2), (0, v3), (0, iw (v4 + 1)), (0, v5), (0, iw (v6 + 1)), zJ]) (zwk_of ⟨Or.inr rfl, Or.inr rfl, Or.inr rfl, Or.inr rfl, Or.inr rfl, Or.inr rfl, Or.inr rfl, Or.inl rfl, trivial⟩) h
    · have h := h.2 hc
      refine EvX.blk (pc' := 78) [(.iinc 3 1, 0, 0)] (by decide +kernel) trivial ?_
      show Ev (d + 1) M_Game_signAt 0 0 78 [(2, v0), (0, v1), (0, v2), (0, iw (v3 + 1)), (0, v4), (0, v5), (0, v6), (0, s0)] [] kd m (zqI kd q)
      refine EvX.goto (off := 6) (tgt := 84) (by decide +kernel) (by decide) ?_
      refine EvX.blk (pc' := 87) [(.iinc 6 1, 0, 0)] (by decide +kernel) trivial ?_
      show Ev (d + 1) M_Game_signAt 0 0 87 [(2, v0), (0, v1), (0, v2), (0, iw (v3 + 1)), (0, v4), (0, v5), (0, iw (v6 + 1)), (0, s0)] [] kd m (zqI kd q)
      refine EvX.goto (off := (-67)) (tgt := 20) (by decide +kernel) (by decide) ?_
      exact EvX.weak (ls2 := [(2, v0), (0, v1), (0, v2), (0, iw (v3 + 1)), (0, v4), (0, v5), (0, iw (v6 + 1)), zJ]) (zwk_of ⟨Or.inr rfl, Or.inr rfl, Or.inr rfl, Or.inr rfl, Or.inr rfl, Or.inr rfl, Or.inr rfl, Or.inl rfl, trivial⟩) h
  · have h := h.2 hc
    refine EvX.blk (pc' := 68) [(.iconst 1, 0, 0)] (by decide +kernel) trivial ?_
    show Ev (d + 1) M_Game_signAt 0 0 68 [(2, v0), (0, v1), (0, v2), (0, v3), (0, v4), (0, v5), (0, v6), (0, s0)] [(0, 1), (0, s0)] kd m (zqI kd q)
    refine EvX.goto (off := 4) (tgt := 72) (by decide +kernel) (by decide) ?_
    refine EvX.icmp_ne (off := 9) (tgt := 81) (by decide +kernel) (by decide) (fun hc => ?_) (fun hc => ?_)
    · have h := h.1 hc
      refine EvX.blk (pc' := 87) [(.iinc 4 1, 0, 0), (.iinc 6 1, 0, 0)] (by decide +kernel) trivial ?_
      show Ev (d + 1) M_Game_signAt 0 0 87 [(2, v0), (0, v1), (0, v2), (0, v3), (0, iw (v4 + 1)), (0, v5), (0, iw (v6 + 1)), (0, s0)] [] kd m (zqI kd q)
      refine EvX.goto (off := (-67)) (tgt := 20) (by decide +kernel) (by decide) ?_
      exact EvX.weak (ls2 := [(2, v0), (0, v1), (0, v2), (0, v3), (0, iw (v4 + 1)), (0, v5), (0, iw (v6 + 1)), zJ]) (zwk_of ⟨Or.inr rfl, Or.inr rfl, Or.inr rfl, Or.inr rfl, Or.inr rfl, Or.inr rfl, Or.inr rfl, Or.inl rfl, trivial⟩) h
    · have h := h.2 hc
      refine EvX.blk (pc' := 78) [(.iinc 3 1, 0, 0)] (by decide +kernel) trivial ?_
      show Ev (d + 1) M_Game_signAt 0 0 78 [(2, v0), (0, v1), (0, v2), (0, iw (v3 + 1)), (0, v4), (0, v5), (0, v6), (0, s0)] [] kd m (zqI kd q)
      refine EvX.goto (off := 6) (tgt := 84) (by decide +kernel) (by decide) ?_
      refine EvX.blk (pc' := 87) [(.iinc 6 1, 0, 0)] (by decide +kernel) trivial ?_
      show Ev (d + 1) M_Game_signAt 0 0 87 [(2, v0), (0, v1), (0, v2), (0, iw (v3 + 1)), (0, v4), (0, v5), (0, iw (v6 + 1)), (0, s0)] [] kd m (zqI kd q)
      refine EvX.goto (off := (-67)) (tgt := 20) (by decide +kernel) (by decide) ?_
      exact EvX.weak (ls2 := [(2, v0), (0, v1), (0, v2), (0, iw (v3 + 1)), (0, v4), (0, v5), (0, iw (v6 + 1)), zJ]) (zwk_of ⟨Or.inr rfl, Or.inr rfl, Or.inr rfl, Or.inr rfl, Or.inr rfl, Or.inr rfl, Or.inr rfl, Or.inl rfl, trivial⟩) h
set_option maxRecDepth 20000 in
set_option maxHeartbeats 1000000 in
theorem T_Game_isParityGame_0 {d : Nat} {kd : ZK} {m : ZM} {q : Int → ZM → Prop} {v0 : Int} (h : (zobj kd v0 1 ∧ (((m v0 2) ≠ 2 → q 0 m) ∧ (¬ (m v0 2) ≠ 2 → (zobj kd v0 1 ∧ (((m v0 3) = 2 → (Ev (d + 1) M_Game_isParityGame 0 0 20 [(2, v0), (0, 0), zJ] [] kd m (zqI kd q))) ∧ (¬ (m v0 3) = 2 → q 0 m))))))) : Ev (d + 1) M_Game_isParityGame 0 0 0 [(2, v0), zJ, zJ] [] kd m (zqI kd q) := by
  obtain ⟨o1, h⟩ := h
  refine EvX.blk (pc' := 5) [(.aload_n 0, 0, 0), (.getfield 18, 1, 2), (.iconst 2, 0, 0)] (by decide +kernel) ⟨g_Game_18, trivial⟩ ⟨o1, ?_⟩
  show Ev (d + 1) M_Game_isParityGame 0 0 5 [(2, v0), zJ, zJ] [(0, 2), (0, m v0 2)] kd m (zqI kd q)
  refine EvX.icmp_ne (off := 11) (tgt := 16) (by decide +kernel) (by decide) (fun hc => ?_) (fun hc => ?_)
  · have h := h.1 hc
    refine EvX.blk (pc' := 17) [(.iconst 0, 0, 0)] (by decide +kernel) trivial ?_
    show Ev (d + 1) M_Game_isParityGame 0 0 17 [(2, v0), zJ, zJ] [(0, 0)] kd m (zqI kd q)
    exact EvX.ret (r := (0, 0)) (by decide +kernel) ⟨rfl, by decide, by decide⟩ ⟨_, rfl, rfl, h⟩
  · have h := h.2 hc
    obtain ⟨o1, h⟩ := h
    refine EvX.blk (pc' := 13) [(.aload_n 0, 0, 0), (.getfield 21, 1, 3), (.iconst 2, 0, 0)] (by decide +kernel) ⟨g_Game_21, trivial⟩ ⟨o1, ?_⟩
    show Ev (d + 1) M_Game_isParityGame 0 0 13 [(2, v0), zJ, zJ] [(0, 2), (0, m v0 3)] kd m (zqI kd q)
    refine EvX.icmp_eq (off := 5) (tgt := 18) (by decide +kernel) (by decide) (fun hc => ?_) (fun hc => ?_)
    · have h := h.1 hc
      refine EvX.blk (pc' := 20) [(.iconst 0, 0, 0), (.istore_n 1, 0, 0)] (by decide +kernel) trivial ?_
      show Ev (d + 1) M_Game_isParityGame 0 0 20 [(2, v0), (0, 0), zJ] [] kd m (zqI kd q)
      exact h
    · have h := h.2 hc
      refine EvX.blk (pc' := 17) [(.iconst 0, 0, 0)] (by decide +kernel) trivial ?_
      show Ev (d + 1) M_Game_isParityGame 0 0 17 [(2, v0), zJ, zJ] [(0, 0)] kd m (zqI kd q)
      exact EvX.ret (r := (0, 0)) (by decide +kernel) ⟨rfl, by decide, by decide⟩ ⟨_, rfl, rfl, h⟩
theorem S_Game_isParityGame {d : Nat} {kd : ZK} {m : ZM} {q : Int → ZM → Prop} {v0 : Int} (h : (zobj kd v0 1 ∧ (((m v0 2) ≠ 2 → q 0 m) ∧ (¬ (m v0 2) ≠ 2 → (zobj kd v0 1 ∧ (((m v0 3) = 2 → (Ev (d + 1) M_Game_isParityGame 0 0 20 [(2, v0), (0, 0), zJ] [] kd m (zqI kd q))) ∧ (¬ (m v0 3) = 2 → q 0 m))))))) : CtI (d + 1) M_Game_isParityGame [(2, v0)] kd m q :=
  Ct.start k_Game_isParityGame (Nat.le_of_ble_eq_true rfl) ⟨2, Or.inr (Or.inr (Or.inl ⟨rfl, rfl⟩))⟩ (T_Game_isParityGame_0 h)
set_option maxRecDepth 20000 in
set_option maxHeartbeats 1000000 in
theorem T_Game_isParityGame_20 {d : Nat} {kd : ZK} {m : ZM} {q : Int → ZM → Prop} {v0 v1 : Int} (h : (zobj kd v0 1 ∧ (((m v0 0) ≤ v1 → q 1 m) ∧ (¬ (m v0 0) ≤ v1 → (Ev (d + 1) M_Game_isParityGame 0 0 30 [(2, v0), (0, v1), (0, 0)] [] kd m (zqI kd q)))))) : Ev (d + 1) M_Game_isParityGame 0 0 20 [(2, v0), (0, v1), zJ] [] kd m (zqI kd q) := by
  obtain ⟨o1, h⟩ := h
  refine EvX.blk (pc' := 25) [(.iload_n 1, 0, 0), (.aload_n 0, 0, 0), (.getfield 11, 1, 0)] (by decide +kernel) ⟨g_Game_11, trivial⟩ ⟨o1, ?_⟩
  show Ev (d + 1) M_Game_isParityGame 0 0 25 [(2, v0), (0, v1), zJ] [(0, m v0 0), (0, v1)] kd m (zqI kd q)
  refine EvX.icmp_ge (off := 50) (tgt := 75) (by decide +kernel) (by decide) (fun hc => ?_) (fun hc => ?_)
  · have h := h.1 hc
    refine EvX.blk (pc' := 76) [(.iconst 1, 0, 0)] (by decide +kernel) trivial ?_
    show Ev (d + 1) M_Game_isParityGame 0 0 76 [(2, v0), (0, v1), zJ] [(0, 1)] kd m (zqI kd q)
    exact EvX.ret (r := (0, 1)) (by decide +kernel) ⟨rfl, by decide, by decide⟩ ⟨_, rfl, rfl, h⟩
  · have h := h.2 hc
    refine EvX.blk (pc' := 30) [(.iconst 0, 0, 0), (.istore_n 2, 0, 0)] (by decide +kernel) trivial ?_
    show Ev (d + 1) M_Game_isParityGame 0 0 30 [(2, v0), (0, v1), (0, 0)] [] kd m (zqI kd q)
    exact h
set_option maxRecDepth 20000 in
set_option maxHeartbeats 1000000 in
theorem T_Game_isParityGame_30 {d : Nat} {kd : ZK} {m : ZM} {q : Int → ZM → Prop} {v0 v1 v2 : Int} (h : (zobj kd v0 1 ∧ (((m v0 1) ≤ v2 → (Ev (d + 1) M_Game_isParityGame 0 0 20 [(2, v0), (0, iw (v1 + 1)), zJ] [] kd m (zqI kd q))) ∧ (¬ (m v0 1) ≤ v2 → (zobj kd v0 1 ∧ (∃ q1, CtI d M_Ap_cellOf [(0, 0), (0, v1), (0, v2)] kd m q1 ∧ ∀ x2 m3, q1 x2 m3 → (zIn kd (m v0 4) 0 x2 ∧ (((m3 (m v0 4) x2) ≤ 0 → (Ev (d + 1) M_Game_isParityGame 0 0 30 [(2, v0), (0, v1), (0, iw (v2 + 1))] [] kd m3 (zqI kd q))) ∧ (¬ (m3 (m v0 4) x2) ≤ 0 → (zobj kd v0 1 ∧ ∃ q4, CtI d M_Game_signAt [(2, v0), (0, v1), (0, v2)] kd m3 q4 ∧ ∀ x5 m6, q4 x5 m6 → ((x5 ≠ 0 → (Ev (d + 1) M_Game_isParityGame 0 0 30 [(2, v0), (0, v1), (0, iw (v2 + 1))] [] kd m6 (zqI kd q))) ∧ (¬ x5 ≠ 0 → q 0 m6)))))))))))) : Ev (d + 1) M_Game_isParityGame 0 0 30 [(2, v0), (0, v1), (0, v2)] [] kd m (zqI kd q) := by
  obtain ⟨o1, h⟩ := h
  refine EvX.blk (pc' := 35) [(.iload_n 2, 0, 0), (.aload_n 0, 0, 0), (.getfield 15, 1, 1)] (by decide +kernel) ⟨g_Game_15, trivial⟩ ⟨o1, ?_⟩
  show Ev (d + 1) M_Game_isParityGame 0 0 35 [(2, v0), (0, v1), (0, v2)] [(0, m v0 1), (0, v2)] kd m (zqI kd q)
  refine EvX.icmp_ge (off := 34) (tgt := 69) (by decide +kernel) (by decide) (fun hc => ?_) (fun hc => ?_)
  · have h := h.1 hc
    refine EvX.blk (pc' := 72) [(.iinc 1 1, 0, 0)] (by decide +kernel) trivial ?_
    show Ev (d + 1) M_Game_isParityGame 0 0 72 [(2, v0), (0, iw (v1 + 1)), (0, v2)] [] kd m (zqI kd q)
    refine EvX.goto (off := (-52)) (tgt := 20) (by decide +kernel) (by decide) ?_
    exact EvX.weak (ls2 := [(2, v0), (0, iw (v1 + 1)), zJ]) (zwk_of ⟨Or.inr rfl, Or.inr rfl, Or.inl rfl, trivial⟩) h
  · have h := h.2 hc
    obtain ⟨o1, h⟩ := h
    refine EvX.blk (pc' := 45) [(.aload_n 0, 0, 0), (.getfield 24, 1, 4), (.iconst 0, 0, 0), (.iload_n 1, 0, 0), (.iload_n 2, 0, 0)] (by decide +kernel) ⟨g_Game_24, trivial⟩ ⟨o1, ?_⟩
    show Ev (d + 1) M_Game_isParityGame 0 0 45 [(2, v0), (0, v1), (0, v2)] [(0, v2), (0, v1), (0, 0), (2, m v0 4)] kd m (zqI kd q)
    obtain ⟨q1, hq, h⟩ := h
    refine EvX.callS (mc := 0) (ms := 0) (as := [(0, 0), (0, v1), (0, v2)]) (st := [(2, m v0 4)]) (by decide +kernel) l_Game_40 k_Ap_cellOf s_Ap_cellOf a_Ap_cellOf (by decide) (Nat.le_of_ble_eq_true rfl) hq (fun r kd1 m3 hr => ?_)
    obtain ⟨x2, rfl, hk, hr⟩ := hr
    subst kd1
    have h := h x2 m3 hr
    show Ev (d + 1) M_Game_isParityGame 0 0 48 [(2, v0), (0, v1), (0, v2)] [(0, x2), (2, m v0 4)] kd m3 (zqI kd q)
    obtain ⟨o1, h⟩ := h
    refine EvX.blk (pc' := 49) [(.iaload, 0, 0)] (by decide +kernel) trivial ⟨o1, ?_⟩
    show Ev (d + 1) M_Game_isParityGame 0 0 49 [(2, v0), (0, v1), (0, v2)] [(0, m3 (m v0 4) x2)] kd m3 (zqI kd q)
    refine EvX.if_le (off := 14) (tgt := 63) (by decide +kernel) (by decide) (fun hc => ?_) (fun hc => ?_)
    · have h := h.1 hc
      refine EvX.blk (pc' := 66) [(.iinc 2 1, 0, 0)] (by decide +kernel) trivial ?_
      show Ev (d + 1) M_Game_isParityGame 0 0 66 [(2, v0), (0, v1), (0, iw (v2 + 1))] [] kd m3 (zqI kd q)
      refine EvX.goto (off := (-36)) (tgt := 30) (by decide +kernel) (by decide) ?_
      exact h
    · have h := h.2 hc
      refine EvX.blk (pc' := 55) [(.aload_n 0, 0, 0), (.iload_n 1, 0, 0), (.iload_n 2, 0, 0)] (by decide +kernel) trivial ?_
      show Ev (d + 1) M_Game_isParityGame 0 0 55 [(2, v0), (0, v1), (0, v2)] [(0, v2), (0, v1), (2, v0)] kd m3 (zqI kd q)
      obtain ⟨ov, h⟩ := h
      obtain ⟨q4, hq, h⟩ := h
      refine EvX.callV (c := 1) (mc := 0) (ms := 0) (as := [(0, v1), (0, v2)]) (st := []) (by decide +kernel) l_Game_100 k_Game_signAt v_Game_signAt a_Game_signAt (by decide) (Nat.le_of_ble_eq_true rfl) rfl ov hq (fun r kd1 m6 hr => ?_)
      obtain ⟨x5, rfl, hk, hr⟩ := hr
      subst kd1
      have h := h x5 m6 hr
      show Ev (d + 1) M_Game_isParityGame 0 0 58 [(2, v0), (0, v1), (0, v2)] [(0, x5)] kd m6 (zqI kd q)
      refine EvX.if_ne (off := 5) (tgt := 63) (by decide +kernel) (by decide) (fun hc => ?_) (fun hc => ?_)
      · have h := h.1 hc
        refine EvX.blk (pc' := 66) [(.iinc 2 1, 0, 0)] (by decide +kernel) trivial ?_
        show Ev (d + 1) M_Game_isParityGame 0 0 66 [(2, v0), (0, v1), (0, iw (v2 + 1))] [] kd m6 (zqI kd q)
        refine EvX.goto (off := (-36)) (tgt := 30) (by decide +kernel) (by decide) ?_
        exact h
      · have h := h.2 hc
        refine EvX.blk (pc' := 62) [(.iconst 0, 0, 0)] (by decide +kernel) trivial ?_
        show Ev (d + 1) M_Game_isParityGame 0 0 62 [(2, v0), (0, v1), (0, v2)] [(0, 0)] kd m6 (zqI kd q)
        exact EvX.ret (r := (0, 0)) (by decide +kernel) ⟨rfl, by decide, by decide⟩ ⟨_, rfl, rfl, h⟩
set_option maxRecDepth 20000 in
set_option maxHeartbeats 1000000 in
theorem T_Game_signedWeight_0 {d : Nat} {kd : ZK} {m : ZM} {q : Int → ZM → Prop} {v0 v1 v2 : Int} (h : (zobj kd v0 1 ∧ (∃ q1, CtI d M_Ap_cellOf [(0, 0), (0, v1), (0, v2)] kd m q1 ∧ ∀ x2 m3, q1 x2 m3 → (zIn kd (m v0 4) 0 x2 ∧ (zobj kd v0 1 ∧ ∃ q4, CtI d M_Game_signAt [(2, v0), (0, v1), (0, v2)] kd m3 q4 ∧ ∀ x5 m6, q4 x5 m6 → q (iw ((m3 (m v0 4) x2) * x5)) m6))))) : Ev (d + 1) M_Game_signedWeight 0 0 0 [(2, v0), (0, v1), (0, v2)] [] kd m (zqI kd q) := by
  obtain ⟨o1, h⟩ := h
  refine EvX.blk (pc' := 7) [(.aload_n 0, 0, 0), (.getfield 24, 1, 4), (.iconst 0, 0, 0), (.iload_n 1, 0, 0), (.iload_n 2, 0, 0)] (by decide +kernel) ⟨g_Game_24, trivial⟩ ⟨o1, ?_⟩
  show Ev (d + 1) M_Game_signedWeight 0 0 7 [(2, v0), (0, v1), (0, v2)] [(0, v2), (0, v1), (0, 0), (2, m v0 4)] kd m (zqI kd q)
  obtain ⟨q1, hq, h⟩ := h
  refine EvX.callS (mc := 0) (ms := 0) (as := [(0, 0), (0, v1), (0, v2)]) (st := [(2, m v0 4)]) (by decide +kernel) l_Game_40 k_Ap_cellOf s_Ap_cellOf a_Ap_cellOf (by decide) (Nat.le_of_ble_eq_true rfl) hq (fun r kd1 m3 hr => ?_)
  obtain ⟨x2, rfl, hk, hr⟩ := hr
  subst kd1
  have h := h x2 m3 hr
  show Ev (d + 1) M_Game_signedWeight 0 0 10 [(2, v0), (0, v1), (0, v2)] [(0, x2), (2, m v0 4)] kd m3 (zqI kd q)
  obtain ⟨o1, h⟩ := h
  refine EvX.blk (pc' := 14) [(.iaload, 0, 0), (.aload_n 0, 0, 0), (.iload_n 1, 0, 0), (.iload_n 2, 0, 0)] (by decide +kernel) trivial ⟨o1, ?_⟩
  show Ev (d + 1) M_Game_signedWeight 0 0 14 [(2, v0), (0, v1), (0, v2)] [(0, v2), (0, v1), (2, v0), (0, m3 (m v0 4) x2)] kd m3 (zqI kd q)
  obtain ⟨ov, h⟩ := h
  obtain ⟨q4, hq, h⟩ := h
  refine EvX.callV (c := 1) (mc := 0) (ms := 0) (as := [(0, v1), (0, v2)]) (st := [(0, m3 (m v0 4) x2)]) (by decide +kernel) l_Game_100 k_Game_signAt v_Game_signAt a_Game_signAt (by decide) (Nat.le_of_ble_eq_true rfl) rfl ov hq (fun r kd1 m6 hr => ?_)
  obtain ⟨x5, rfl, hk, hr⟩ := hr
  subst kd1
  have h := h x5 m6 hr
  show Ev (d + 1) M_Game_signedWeight 0 0 17 [(2, v0), (0, v1), (0, v2)] [(0, x5), (0, m3 (m v0 4) x2)] kd m6 (zqI kd q)
  refine EvX.blk (pc' := 18) [(.imul, 0, 0)] (by decide +kernel) trivial ?_
  show Ev (d + 1) M_Game_signedWeight 0 0 18 [(2, v0), (0, v1), (0, v2)] [(0, iw ((m3 (m v0 4) x2) * x5))] kd m6 (zqI kd q)
  exact EvX.ret (r := (0, iw ((m3 (m v0 4) x2) * x5))) (by decide +kernel) rfl ⟨_, rfl, rfl, h⟩
theorem S_Game_signedWeight {d : Nat} {kd : ZK} {m : ZM} {q : Int → ZM → Prop} {v0 v1 v2 : Int} (h : (zobj kd v0 1 ∧ (∃ q1, CtI d M_Ap_cellOf [(0, 0), (0, v1), (0, v2)] kd m q1 ∧ ∀ x2 m3, q1 x2 m3 → (zIn kd (m v0 4) 0 x2 ∧ (zobj kd v0 1 ∧ ∃ q4, CtI d M_Game_signAt [(2, v0), (0, v1), (0, v2)] kd m3 q4 ∧ ∀ x5 m6, q4 x5 m6 → q (iw ((m3 (m v0 4) x2) * x5)) m6))))) : CtI (d + 1) M_Game_signedWeight [(2, v0), (0, v1), (0, v2)] kd m q :=
  Ct.start k_Game_signedWeight (Nat.le_of_ble_eq_true rfl) ⟨1, Or.inr (Or.inl ⟨rfl, rfl⟩)⟩ (T_Game_signedWeight_0 h)
set_option maxRecDepth 20000 in
set_option maxHeartbeats 1000000 in
theorem T_Game_squares_0 {d : Nat} {kd : ZK} {m : ZM} {q : Int → ZM → Prop} {v0 v1 : Int} (h : (Ev (d + 1) M_Game_squares 0 0 4 [(2, v0), (0, v1), (0, 0), (0, 0), zJ] [] kd m (zqI kd q))) : Ev (d + 1) M_Game_squares 0 0 0 [(2, v0), (0, v1), zJ, zJ, zJ] [] kd m (zqI kd q) := by
  refine EvX.blk (pc' := 4) [(.iconst 0, 0, 0), (.istore_n 2, 0, 0), (.iconst 0, 0, 0), (.istore_n 3, 0, 0)] (by decide +kernel) trivial ?_
  show Ev (d + 1) M_Game_squares 0 0 4 [(2, v0), (0, v1), (0, 0), (0, 0), zJ] [] kd m (zqI kd q)
  exact h
theorem S_Game_squares {d : Nat} {kd : ZK} {m : ZM} {q : Int → ZM → Prop} {v0 v1 : Int} (h : (Ev (d + 1) M_Game_squares 0 0 4 [(2, v0), (0, v1), (0, 0), (0, 0), zJ] [] kd m (zqI kd q))) : CtI (d + 1) M_Game_squares [(2, v0), (0, v1)] kd m q :=
  Ct.start k_Game_squares (Nat.le_of_ble_eq_true rfl) ⟨1, Or.inr (Or.inl ⟨rfl, rfl⟩)⟩ (T_Game_squares_0 h)
set_option maxRecDepth 20000 in
set_option maxHeartbeats 1000000 in
theorem T_Game_squares_4 {d : Nat} {kd : ZK} {m : ZM} {q : Int → ZM → Prop} {v0 v1 v2 v3 : Int} (h : (zobj kd v0 1 ∧ (((m v0 0) ≤ v3 → q v2 m) ∧ (¬ (m v0 0) ≤ v3 → (Ev (d + 1) M_Game_squares 0 0 17 [(2, v0), (0, v1), (0, v2), (0, v3), (0, iw (v3 + 1))] [] kd m (zqI kd q)))))) : Ev (d + 1) M_Game_squares 0 0 4 [(2, v0), (0, v1), (0, v2), (0, v3), zJ] [] kd m (zqI kd q) := by
  obtain ⟨o1, h⟩ := h
  refine EvX.blk (pc' := 9) [(.iload_n 3, 0, 0), (.aload_n 0, 0, 0), (.getfield 11, 1, 0)] (by decide +kernel) ⟨g_Game_11, trivial⟩ ⟨o1, ?_⟩
  show Ev (d + 1) M_Game_squares 0 0 9 [(2, v0), (0, v1), (0, v2), (0, v3), zJ] [(0, m v0 0), (0, v3)] kd m (zqI kd q)
  refine EvX.icmp_ge (off := 40) (tgt := 49) (by decide +kernel) (by decide) (fun hc => ?_) (fun hc => ?_)
  · have h := h.1 hc
    refine EvX.blk (pc' := 50) [(.iload_n 2, 0, 0)] (by decide +kernel) trivial ?_
    show Ev (d + 1) M_Game_squares 0 0 50 [(2, v0), (0, v1), (0, v2), (0, v3), zJ] [(0, v2)] kd m (zqI kd q)
    exact EvX.ret (r := (0, v2)) (by decide +kernel) rfl ⟨_, rfl, rfl, h⟩
  · have h := h.2 hc
    refine EvX.blk (pc' := 17) [(.iload_n 3, 0, 0), (.iconst 1, 0, 0), (.iadd, 0, 0), (.istore 4, 0, 0)] (by decide +kernel) trivial ?_
    show Ev (d + 1) M_Game_squares 0 0 17 [(2, v0), (0, v1), (0, v2), (0, v3), (0, iw (v3 + 1))] [] kd m (zqI kd q)
    exact h
set_option maxRecDepth 20000 in
set_option maxHeartbeats 1000000 in
theorem T_Game_squares_17 {d : Nat} {kd : ZK} {m : ZM} {q : Int → ZM → Prop} {v0 v1 v2 v3 v4 : Int} (h : (zobj kd v0 1 ∧ (((m v0 0) ≤ v4 → (Ev (d + 1) M_Game_squares 0 0 4 [(2, v0), (0, v1), (0, v2), (0, iw (v3 + 1)), zJ] [] kd m (zqI kd q))) ∧ (¬ (m v0 0) ≤ v4 → (zobj kd v0 1 ∧ ∃ q1, CtI d M_Game_squaresOfTwo [(2, v0), (0, v3), (0, v4), (0, v1)] kd m q1 ∧ ∀ x2 m3, q1 x2 m3 → (Ev (d + 1) M_Game_squares 0 0 17 [(2, v0), (0, v1), (0, iw (v2 + x2)), (0, v3), (0, iw (v4 + 1))] [] kd m3 (zqI kd q))))))) : Ev (d + 1) M_Game_squares 0 0 17 [(2, v0), (0, v1), (0, v2), (0, v3), (0, v4)] [] kd m (zqI kd q) := by
  obtain ⟨o1, h⟩ := h
  refine EvX.blk (pc' := 23) [(.iload 4, 0, 0), (.aload_n 0, 0, 0), (.getfield 11, 1, 0)] (by decide +kernel) ⟨g_Game_11, trivial⟩ ⟨o1, ?_⟩
  show Ev (d + 1) M_Game_squares 0 0 23 [(2, v0), (0, v1), (0, v2), (0, v3), (0, v4)] [(0, m v0 0), (0, v4)] kd m (zqI kd q)
  refine EvX.icmp_ge (off := 20) (tgt := 43) (by decide +kernel) (by decide) (fun hc => ?_) (fun hc => ?_)
  · have h := h.1 hc
    refine EvX.blk (pc' := 46) [(.iinc 3 1, 0, 0)] (by decide +kernel) trivial ?_
    show Ev (d + 1) M_Game_squares 0 0 46 [(2, v0), (0, v1), (0, v2), (0, iw (v3 + 1)), (0, v4)] [] kd m (zqI kd q)
    refine EvX.goto (off := (-42)) (tgt := 4) (by decide +kernel) (by decide) ?_
    exact EvX.weak (ls2 := [(2, v0), (0, v1), (0, v2), (0, iw (v3 + 1)), zJ]) (zwk_of ⟨Or.inr rfl, Or.inr rfl, Or.inr rfl, Or.inr rfl, Or.inl rfl, trivial⟩) h
  · have h := h.2 hc
    refine EvX.blk (pc' := 32) [(.iload_n 2, 0, 0), (.aload_n 0, 0, 0), (.iload_n 3, 0, 0), (.iload 4, 0, 0), (.iload_n 1, 0, 0)] (by decide +kernel) trivial ?_
    show Ev (d + 1) M_Game_squares 0 0 32 [(2, v0), (0, v1), (0, v2), (0, v3), (0, v4)] [(0, v1), (0, v4), (0, v3), (2, v0), (0, v2)] kd m (zqI kd q)
    obtain ⟨ov, h⟩ := h
    obtain ⟨q1, hq, h⟩ := h
    refine EvX.callV (c := 1) (mc := 0) (ms := 0) (as := [(0, v3), (0, v4), (0, v1)]) (st := [(0, v2)]) (by decide +kernel) l_Game_103 k_Game_squaresOfTwo v_Game_squaresOfTwo a_Game_squaresOfTwo (by decide) (Nat.le_of_ble_eq_true rfl) rfl ov hq (fun r kd1 m3 hr => ?_)
    obtain ⟨x2, rfl, hk, hr⟩ := hr
    subst kd1
    have h := h x2 m3 hr
    show Ev (d + 1) M_Game_squares 0 0 35 [(2, v0), (0, v1), (0, v2), (0, v3), (0, v4)] [(0, x2), (0, v2)] kd m3 (zqI kd q)
    refine EvX.blk (pc' := 40) [(.iadd, 0, 0), (.istore_n 2, 0, 0), (.iinc 4 1, 0, 0)] (by decide +kernel) trivial ?_
    show Ev (d + 1) M_Game_squares 0 0 40 [(2, v0), (0, v1), (0, iw (v2 + x2)), (0, v3), (0, iw (v4 + 1))] [] kd m3 (zqI kd q)
    refine EvX.goto (off := (-23)) (tgt := 17) (by decide +kernel) (by decide) ?_
    exact h
set_option maxRecDepth 20000 in
set_option maxHeartbeats 1000000 in
theorem T_Game_squaresOfTwo_0 {d : Nat} {kd : ZK} {m : ZM} {q : Int → ZM → Prop} {v0 v1 v2 v3 : Int} (h : (Ev (d + 1) M_Game_squaresOfTwo 0 0 6 [(2, v0), (0, v1), (0, v2), (0, v3), (0, 0), (0, 0), zJ, zJ, zJ] [] kd m (zqI kd q))) : Ev (d + 1) M_Game_squaresOfTwo 0 0 0 [(2, v0), (0, v1), (0, v2), (0, v3), zJ, zJ, zJ, zJ, zJ] [] kd m (zqI kd q) := by
  refine EvX.blk (pc' := 6) [(.iconst 0, 0, 0), (.istore 4, 0, 0), (.iconst 0, 0, 0), (.istore 5, 0, 0)] (by decide +kernel) trivial ?_
  show Ev (d + 1) M_Game_squaresOfTwo 0 0 6 [(2, v0), (0, v1), (0, v2), (0, v3), (0, 0), (0, 0), zJ, zJ, zJ] [] kd m (zqI kd q)
  exact h
theorem S_Game_squaresOfTwo {d : Nat} {kd : ZK} {m : ZM} {q : Int → ZM → Prop} {v0 v1 v2 v3 : Int} (h : (Ev (d + 1) M_Game_squaresOfTwo 0 0 6 [(2, v0), (0, v1), (0, v2), (0, v3), (0, 0), (0, 0), zJ, zJ, zJ] [] kd m (zqI kd q))) : CtI (d + 1) M_Game_squaresOfTwo [(2, v0), (0, v1), (0, v2), (0, v3)] kd m q :=
  Ct.start k_Game_squaresOfTwo (Nat.le_of_ble_eq_true rfl) ⟨1, Or.inr (Or.inl ⟨rfl, rfl⟩)⟩ (T_Game_squaresOfTwo_0 h)
set_option maxRecDepth 20000 in
set_option maxHeartbeats 1000000 in
theorem T_Game_squaresOfTwo_6 {d : Nat} {kd : ZK} {m : ZM} {q : Int → ZM → Prop} {v0 v1 v2 v3 v4 v5 : Int} (h : (zobj kd v0 1 ∧ (((m v0 1) ≤ v5 → q v4 m) ∧ (¬ (m v0 1) ≤ v5 → (zobj kd v0 1 ∧ ∃ q1, CtI d M_Game_signedWeight [(2, v0), (0, v1), (0, v5)] kd m q1 ∧ ∀ x2 m3, q1 x2 m3 → (zobj kd v0 1 ∧ ∃ q4, CtI d M_Game_signedWeight [(2, v0), (0, v2), (0, v5)] kd m3 q4 ∧ ∀ x5 m6, q4 x5 m6 → (Ev (d + 1) M_Game_squaresOfTwo 0 0 38 [(2, v0), (0, v1), (0, v2), (0, v3), (0, v4), (0, v5), (0, iw (x2 * x5)), (0, iw (v5 + 1)), zJ] [] kd m6 (zqI kd q)))))))) : Ev (d + 1) M_Game_squaresOfTwo 0 0 6 [(2, v0), (0, v1), (0, v2), (0, v3), (0, v4), (0, v5), zJ, zJ, zJ] [] kd m (zqI kd q) := by
  obtain ⟨o1, h⟩ := h
  refine EvX.blk (pc' := 12) [(.iload 5, 0, 0), (.aload_n 0, 0, 0), (.getfield 15, 1, 1)] (by decide +kernel) ⟨g_Game_15, trivial⟩ ⟨o1, ?_⟩
  show Ev (d + 1) M_Game_squaresOfTwo 0 0 12 [(2, v0), (0, v1), (0, v2), (0, v3), (0, v4), (0, v5), zJ, zJ, zJ] [(0, m v0 1), (0, v5)] kd m (zqI kd q)
  refine EvX.icmp_ge (off := 84) (tgt := 96) (by decide +kernel) (by decide) (fun hc => ?_) (fun hc => ?_)
  · have h := h.1 hc
    refine EvX.blk (pc' := 98) [(.iload 4, 0, 0)] (by decide +kernel) trivial ?_
    show Ev (d + 1) M_Game_squaresOfTwo 0 0 98 [(2, v0), (0, v1), (0, v2), (0, v3), (0, v4), (0, v5), zJ, zJ, zJ] [(0, v4)] kd m (zqI kd q)
    exact EvX.ret (r := (0, v4)) (by decide +kernel) rfl ⟨_, rfl, rfl, h⟩
  · have h := h.2 hc
    refine EvX.blk (pc' := 19) [(.aload_n 0, 0, 0), (.iload_n 1, 0, 0), (.iload 5, 0, 0)] (by decide +kernel) trivial ?_
    show Ev (d + 1) M_Game_squaresOfTwo 0 0 19 [(2, v0), (0, v1), (0, v2), (0, v3), (0, v4), (0, v5), zJ, zJ, zJ] [(0, v5), (0, v1), (2, v0)] kd m (zqI kd q)
    obtain ⟨ov, h⟩ := h
    obtain ⟨q1, hq, h⟩ := h
    refine EvX.callV (c := 1) (mc := 0) (ms := 0) (as := [(0, v1), (0, v5)]) (st := []) (by decide +kernel) l_Game_107 k_Game_signedWeight v_Game_signedWeight a_Game_signedWeight (by decide) (Nat.le_of_ble_eq_true rfl) rfl ov hq (fun r kd1 m3 hr => ?_)
    obtain ⟨x2, rfl, hk, hr⟩ := hr
    subst kd1
    have h := h x2 m3 hr
    show Ev (d + 1) M_Game_squaresOfTwo 0 0 22 [(2, v0), (0, v1), (0, v2), (0, v3), (0, v4), (0, v5), zJ, zJ, zJ] [(0, x2)] kd m3 (zqI kd q)
    refine EvX.blk (pc' := 26) [(.aload_n 0, 0, 0), (.iload_n 2, 0, 0), (.iload 5, 0, 0)] (by decide +kernel) trivial ?_
    show Ev (d + 1) M_Game_squaresOfTwo 0 0 26 [(2, v0), (0, v1), (0, v2), (0, v3), (0, v4), (0, v5), zJ, zJ, zJ] [(0, v5), (0, v2), (2, v0), (0, x2)] kd m3 (zqI kd q)
    obtain ⟨ov, h⟩ := h
    obtain ⟨q4, hq, h⟩ := h
    refine EvX.callV (c := 1) (mc := 0) (ms := 0) (as := [(0, v2), (0, v5)]) (st := [(0, x2)]) (by decide +kernel) l_Game_107 k_Game_signedWeight v_Game_signedWeight a_Game_signedWeight (by decide) (Nat.le_of_ble_eq_true rfl) rfl ov hq (fun r kd1 m6 hr => ?_)
    obtain ⟨x5, rfl, hk, hr⟩ := hr
    subst kd1
    have h := h x5 m6 hr
    show Ev (d + 1) M_Game_squaresOfTwo 0 0 29 [(2, v0), (0, v1), (0, v2), (0, v3), (0, v4), (0, v5), zJ, zJ, zJ] [(0, x5), (0, x2)] kd m6 (zqI kd q)
    refine EvX.blk (pc' := 38) [(.imul, 0, 0), (.istore 6, 0, 0), (.iload 5, 0, 0), (.iconst 1, 0, 0), (.iadd, 0, 0), (.istore 7, 0, 0)] (by decide +kernel) trivial ?_
    show Ev (d + 1) M_Game_squaresOfTwo 0 0 38 [(2, v0), (0, v1), (0, v2), (0, v3), (0, v4), (0, v5), (0, iw (x2 * x5)), (0, iw (v5 + 1)), zJ] [] kd m6 (zqI kd q)
    exact h
set_option maxRecDepth 20000 in
set_option maxHeartbeats 1000000 in
theorem T_Game_squaresOfTwo_38 {d : Nat} {kd : ZK} {m : ZM} {q : Int → ZM → Prop} {v0 v1 v2 v3 v4 v5 v6 v7 : Int} (h : (zobj kd v0 1 ∧ (((m v0 1) ≤ v7 → (Ev (d + 1) M_Game_squaresOfTwo 0 0 6 [(2, v0), (0, v1), (0, v2), (0, v3), (0, v4), (0, iw (v5 + 1)), zJ, zJ, zJ] [] kd m (zqI kd q))) ∧ (¬ (m v0 1) ≤ v7 → (zobj kd v0 1 ∧ ∃ q1, CtI d M_Game_signedWeight [(2, v0), (0, v1), (0, v7)] kd m q1 ∧ ∀ x2 m3, q1 x2 m3 → (zobj kd v0 1 ∧ ∃ q4, CtI d M_Game_signedWeight [(2, v0), (0, v2), (0, v7)] kd m3 q4 ∧ ∀ x5 m6, q4 x5 m6 → (((iw ((iw (v6 * x2)) * x5)) < 0 → (Ev (d + 1) M_Game_squaresOfTwo 0 0 38 [(2, v0), (0, v1), (0, v2), (0, v3), (0, iw (v4 + 1)), (0, v5), (0, v6), (0, iw (v7 + 1)), zJ] [] kd m6 (zqI kd q))) ∧ (¬ (iw ((iw (v6 * x2)) * x5)) < 0 → (((iw ((iw (v6 * x2)) * x5)) ≤ 0 → (Ev (d + 1) M_Game_squaresOfTwo 0 0 38 [(2, v0), (0, v1), (0, v2), (0, v3), (0, v4), (0, v5), (0, v6), (0, iw (v7 + 1)), zJ] [] kd m6 (zqI kd q))) ∧ (¬ (iw ((iw (v6 * x2)) * x5)) ≤ 0 → ((v3 ≠ 0 → (Ev (d + 1) M_Game_squaresOfTwo 0 0 38 [(2, v0), (0, v1), (0, v2), (0, v3), (0, v4), (0, v5), (0, v6), (0, iw (v7 + 1)), zJ] [] kd m6 (zqI kd q))) ∧ (¬ v3 ≠ 0 → (Ev (d + 1) M_Game_squaresOfTwo 0 0 38 [(2, v0), (0, v1), (0, v2), (0, v3), (0, iw (v4 + 1)), (0, v5), (0, v6), (0, iw (v7 + 1)), zJ] [] kd m6 (zqI kd q)))))))))))))) : Ev (d + 1) M_Game_squaresOfTwo 0 0 38 [(2, v0), (0, v1), (0, v2), (0, v3), (0, v4), (0, v5), (0, v6), (0, v7), zJ] [] kd m (zqI kd q) := by
  obtain ⟨o1, h⟩ := h
  refine EvX.blk (pc' := 44) [(.iload 7, 0, 0), (.aload_n 0, 0, 0), (.getfield 15, 1, 1)] (by decide +kernel) ⟨g_Game_15, trivial⟩ ⟨o1, ?_⟩
  show Ev (d + 1) M_Game_squaresOfTwo 0 0 44 [(2, v0), (0, v1), (0, v2), (0, v3), (0, v4), (0, v5), (0, v6), (0, v7), zJ] [(0, m v0 1), (0, v7)] kd m (zqI kd q)
  refine EvX.icmp_ge (off := 46) (tgt := 90) (by decide +kernel) (by decide) (fun hc => ?_) (fun hc => ?_)
  · have h := h.1 hc
    refine EvX.blk (pc' := 93) [(.iinc 5 1, 0, 0)] (by decide +kernel) trivial ?_
    show Ev (d + 1) M_Game_squaresOfTwo 0 0 93 [(2, v0), (0, v1), (0, v2), (0, v3), (0, v4), (0, iw (v5 + 1)), (0, v6), (0, v7), zJ] [] kd m (zqI kd q)
    refine EvX.goto (off := (-87)) (tgt := 6) (by decide +kernel) (by decide) ?_
    exact EvX.weak (ls2 := [(2, v0), (0, v1), (0, v2), (0, v3), (0, v4), (0, iw (v5 + 1)), zJ, zJ, zJ]) (zwk_of ⟨Or.inr rfl, Or.inr rfl, Or.inr rfl, Or.inr rfl, Or.inr rfl, Or.inr rfl, Or.inl rfl, Or.inl rfl, Or.inl rfl, trivial⟩) h
  · have h := h.2 hc
    refine EvX.blk (pc' := 53) [(.iload 6, 0, 0), (.aload_n 0, 0, 0), (.iload_n 1, 0, 0), (.iload 7, 0, 0)] (by decide +kernel) trivial ?_
    show Ev (d + 1) M_Game_squaresOfTwo 0 0 53 [(2, v0), (0, v1), (0, v2), (0, v3), (0, v4), (0, v5), (0, v6), (0, v7), zJ] [(0, v7), (0, v1), (2, v0), (0, v6)] kd m (zqI kd q)
    obtain ⟨ov, h⟩ := h
    obtain ⟨q1, hq, h⟩ := h
    refine EvX.callV (c := 1) (mc := 0) (ms := 0) (as := [(0, v1), (0, v7)]) (st := [(0, v6)]) (by decide +kernel) l_Game_107 k_Game_signedWeight v_Game_signedWeight a_Game_signedWeight (by decide) (Nat.le_of_ble_eq_true rfl) rfl ov hq (fun r kd1 m3 hr => ?_)
    obtain ⟨x2, rfl, hk, hr⟩ := hr
    subst kd1
    have h := h x2 m3 hr
    show Ev (d + 1) M_Game_squaresOfTwo 0 0 56 [(2, v0), (0, v1), (0, v2), (0, v3), (0, v4), (0, v5), (0, v6), (0, v7), zJ] [(0, x2), (0, v6)] kd m3 (zqI kd q)
    refine EvX.blk (pc' := 61) [(.imul, 0, 0), (.aload_n 0, 0, 0), (.iload_n 2, 0, 0), (.iload 7, 0, 0)] (by decide +kernel) trivial ?_
    show Ev (d + 1) M_Game_squaresOfTwo 0 0 61 [(2, v0), (0, v1), (0, v2), (0, v3), (0, v4), (0, v5), (0, v6), (0, v7), zJ] [(0, v7), (0, v2), (2, v0), (0, iw (v6 * x2))] kd m3 (zqI kd q)
    obtain ⟨ov, h⟩ := h
    obtain ⟨q4, hq, h⟩ := h
    refine EvX.callV (c := 1) (mc := 0) (ms := 0) (as := [(0, v2), (0, v7)]) (st := [(0, iw (v6 * x2))]) (by decide +kernel) l_Game_107 k_Game_signedWeight v_Game_signedWeight a_Game_signedWeight (by decide) (Nat.le_of_ble_eq_true rfl) rfl ov hq (fun r kd1 m6 hr => ?_)
    obtain ⟨x5, rfl, hk, hr⟩ := hr
    subst kd1
    have h := h x5 m6 hr
    show Ev (d + 1) M_Game_squaresOfTwo 0 0 64 [(2, v0), (0, v1), (0, v2), (0, v3), (0, v4), (0, v5), (0, v6), (0, v7), zJ] [(0, x5), (0, iw (v6 * x2))] kd m6 (zqI kd q)
    refine EvX.blk (pc' := 69) [(.imul, 0, 0), (.istore 8, 0, 0), (.iload 8, 0, 0)] (by decide +kernel) trivial ?_
    show Ev (d + 1) M_Game_squaresOfTwo 0 0 69 [(2, v0), (0, v1), (0, v2), (0, v3), (0, v4), (0, v5), (0, v6), (0, v7), (0, iw ((iw (v6 * x2)) * x5))] [(0, iw ((iw (v6 * x2)) * x5))] kd m6 (zqI kd q)
    refine EvX.if_lt (off := 12) (tgt := 81) (by decide +kernel) (by decide) (fun hc => ?_) (fun hc => ?_)
    · have h := h.1 hc
      refine EvX.blk (pc' := 87) [(.iinc 4 1, 0, 0), (.iinc 7 1, 0, 0)] (by decide +kernel) trivial ?_
      show Ev (d + 1) M_Game_squaresOfTwo 0 0 87 [(2, v0), (0, v1), (0, v2), (0, v3), (0, iw (v4 + 1)), (0, v5), (0, v6), (0, iw (v7 + 1)), (0, iw ((iw (v6 * x2)) * x5))] [] kd m6 (zqI kd q)
      refine EvX.goto (off := (-49)) (tgt := 38) (by decide +kernel) (by decide) ?_
      exact EvX.weak (ls2 := [(2, v0), (0, v1), (0, v2), (0, v3), (0, iw (v4 + 1)), (0, v5), (0, v6), (0, iw (v7 + 1)), zJ]) (zwk_of ⟨Or.inr rfl, Or.inr rfl, Or.inr rfl, Or.inr rfl, Or.inr rfl, Or.inr rfl, Or.inr rfl, Or.inr rfl, Or.inl rfl, trivial⟩) h
    · have h := h.2 hc
      refine EvX.blk (pc' := 74) [(.iload 8, 0, 0)] (by decide +kernel) trivial ?_
      show Ev (d + 1) M_Game_squaresOfTwo 0 0 74 [(2, v0), (0, v1), (0, v2), (0, v3), (0, v4), (0, v5), (0, v6), (0, v7), (0, iw ((iw (v6 * x2)) * x5))] [(0, iw ((iw (v6 * x2)) * x5))] kd m6 (zqI kd q)
      refine EvX.if_le (off := 10) (tgt := 84) (by decide +kernel) (by decide) (fun hc => ?_) (fun hc => ?_)
      · have h := h.1 hc
        refine EvX.blk (pc' := 87) [(.iinc 7 1, 0, 0)] (by decide +kernel) trivial ?_
        show Ev (d + 1) M_Game_squaresOfTwo 0 0 87 [(2, v0), (0, v1), (0, v2), (0, v3), (0, v4), (0, v5), (0, v6), (0, iw (v7 + 1)), (0, iw ((iw (v6 * x2)) * x5))] [] kd m6 (zqI kd q)
        refine EvX.goto (off := (-49)) (tgt := 38) (by decide +kernel) (by decide) ?_
        exact EvX.weak (ls2 := [(2, v0), (0, v1), (0, v2), (0, v3), (0, v4), (0, v5), (0, v6), (0, iw (v7 + 1)), zJ]) (zwk_of ⟨Or.inr rfl, Or.inr rfl, Or.inr rfl, Or.inr rfl, Or.inr rfl, Or.inr rfl, Or.inr rfl, Or.inr rfl, Or.inl rfl, trivial⟩) h
      · have h := h.2 hc
        refine EvX.blk (pc' := 78) [(.iload_n 3, 0, 0)] (by decide +kernel) trivial ?_
        show Ev (d + 1) M_Game_squaresOfTwo 0 0 78 [(2, v0), (0, v1), (0, v2), (0, v3), (0, v4), (0, v5), (0, v6), (0, v7), (0, iw ((iw (v6 * x2)) * x5))] [(0, v3)] kd m6 (zqI kd q)
        refine EvX.if_ne (off := 6) (tgt := 84) (by decide +kernel) (by decide) (fun hc => ?_) (fun hc => ?_)
        · have h := h.1 hc
          refine EvX.blk (pc' := 87) [(.iinc 7 1, 0, 0)] (by decide +kernel) trivial ?_
          show Ev (d + 1) M_Game_squaresOfTwo 0 0 87 [(2, v0), (0, v1), (0, v2), (0, v3), (0, v4), (0, v5), (0, v6), (0, iw (v7 + 1)), (0, iw ((iw (v6 * x2)) * x5))] [] kd m6 (zqI kd q)
          refine EvX.goto (off := (-49)) (tgt := 38) (by decide +kernel) (by decide) ?_
          exact EvX.weak (ls2 := [(2, v0), (0, v1), (0, v2), (0, v3), (0, v4), (0, v5), (0, v6), (0, iw (v7 + 1)), zJ]) (zwk_of ⟨Or.inr rfl, Or.inr rfl, Or.inr rfl, Or.inr rfl, Or.inr rfl, Or.inr rfl, Or.inr rfl, Or.inr rfl, Or.inl rfl, trivial⟩) h
        · have h := h.2 hc
          refine EvX.blk (pc' := 87) [(.iinc 4 1, 0, 0), (.iinc 7 1, 0, 0)] (by decide +kernel) trivial ?_
          show Ev (d + 1) M_Game_squaresOfTwo 0 0 87 [(2, v0), (0, v1), (0, v2), (0, v3), (0, iw (v4 + 1)), (0, v5), (0, v6), (0, iw (v7 + 1)), (0, iw ((iw (v6 * x2)) * x5))] [] kd m6 (zqI kd q)
          refine EvX.goto (off := (-49)) (tgt := 38) (by decide +kernel) (by decide) ?_
          exact EvX.weak (ls2 := [(2, v0), (0, v1), (0, v2), (0, v3), (0, iw (v4 + 1)), (0, v5), (0, v6), (0, iw (v7 + 1)), zJ]) (zwk_of ⟨Or.inr rfl, Or.inr rfl, Or.inr rfl, Or.inr rfl, Or.inr rfl, Or.inr rfl, Or.inr rfl, Or.inr rfl, Or.inl rfl, trivial⟩) h
set_option maxRecDepth 20000 in
set_option maxHeartbeats 1000000 in
theorem T_Game_boxWorth_0 {d : Nat} {kd : ZK} {m : ZM} {q : Int → ZM → Prop} {v0 : Int} (h : (Ev (d + 1) M_Game_boxWorth 0 0 4 [(2, v0), (0, 0), (0, 0), zJ, zJ, zJ] [] kd m (zqI kd q))) : Ev (d + 1) M_Game_boxWorth 0 0 0 [(2, v0), zJ, zJ, zJ, zJ, zJ] [] kd m (zqI kd q) := by
  refine EvX.blk (pc' := 4) [(.iconst 0, 0, 0), (.istore_n 1, 0, 0), (.iconst 0, 0, 0), (.istore_n 2, 0, 0)] (by decide +kernel) trivial ?_
  show Ev (d + 1) M_Game_boxWorth 0 0 4 [(2, v0), (0, 0), (0, 0), zJ, zJ, zJ] [] kd m (zqI kd q)
  exact h
theorem S_Game_boxWorth {d : Nat} {kd : ZK} {m : ZM} {q : Int → ZM → Prop} {v0 : Int} (h : (Ev (d + 1) M_Game_boxWorth 0 0 4 [(2, v0), (0, 0), (0, 0), zJ, zJ, zJ] [] kd m (zqI kd q))) : CtI (d + 1) M_Game_boxWorth [(2, v0)] kd m q :=
  Ct.start k_Game_boxWorth (Nat.le_of_ble_eq_true rfl) ⟨1, Or.inr (Or.inl ⟨rfl, rfl⟩)⟩ (T_Game_boxWorth_0 h)
set_option maxRecDepth 20000 in
set_option maxHeartbeats 1000000 in
theorem T_Game_boxWorth_4 {d : Nat} {kd : ZK} {m : ZM} {q : Int → ZM → Prop} {v0 v1 v2 : Int} (h : (zobj kd v0 1 ∧ (((m v0 0) ≤ v2 → q v1 m) ∧ (¬ (m v0 0) ≤ v2 → (Ev (d + 1) M_Game_boxWorth 0 0 14 [(2, v0), (0, v1), (0, v2), (0, 0), zJ, zJ] [] kd m (zqI kd q)))))) : Ev (d + 1) M_Game_boxWorth 0 0 4 [(2, v0), (0, v1), (0, v2), zJ, zJ, zJ] [] kd m (zqI kd q) := by
  obtain ⟨o1, h⟩ := h
  refine EvX.blk (pc' := 9) [(.iload_n 2, 0, 0), (.aload_n 0, 0, 0), (.getfield 11, 1, 0)] (by decide +kernel) ⟨g_Game_11, trivial⟩ ⟨o1, ?_⟩
  show Ev (d + 1) M_Game_boxWorth 0 0 9 [(2, v0), (0, v1), (0, v2), zJ, zJ, zJ] [(0, m v0 0), (0, v2)] kd m (zqI kd q)
  refine EvX.icmp_ge (off := 91) (tgt := 100) (by decide +kernel) (by decide) (fun hc => ?_) (fun hc => ?_)
  · have h := h.1 hc
    refine EvX.blk (pc' := 101) [(.iload_n 1, 0, 0)] (by decide +kernel) trivial ?_
    show Ev (d + 1) M_Game_boxWorth 0 0 101 [(2, v0), (0, v1), (0, v2), zJ, zJ, zJ] [(0, v1)] kd m (zqI kd q)
    exact EvX.ret (r := (0, v1)) (by decide +kernel) rfl ⟨_, rfl, rfl, h⟩
  · have h := h.2 hc
    refine EvX.blk (pc' := 14) [(.iconst 0, 0, 0), (.istore_n 3, 0, 0)] (by decide +kernel) trivial ?_
    show Ev (d + 1) M_Game_boxWorth 0 0 14 [(2, v0), (0, v1), (0, v2), (0, 0), zJ, zJ] [] kd m (zqI kd q)
    exact h
set_option maxRecDepth 20000 in
set_option maxHeartbeats 1000000 in
theorem T_Game_boxWorth_14 {d : Nat} {kd : ZK} {m : ZM} {q : Int → ZM → Prop} {v0 v1 v2 v3 : Int} (h : (zobj kd v0 1 ∧ (((m v0 1) ≤ v3 → (Ev (d + 1) M_Game_boxWorth 0 0 4 [(2, v0), (0, v1), (0, iw (v2 + 1)), zJ, zJ, zJ] [] kd m (zqI kd q))) ∧ (¬ (m v0 1) ≤ v3 → (Ev (d + 1) M_Game_boxWorth 0 0 25 [(2, v0), (0, v1), (0, v2), (0, v3), (0, 0), zJ] [] kd m (zqI kd q)))))) : Ev (d + 1) M_Game_boxWorth 0 0 14 [(2, v0), (0, v1), (0, v2), (0, v3), zJ, zJ] [] kd m (zqI kd q) := by
  obtain ⟨o1, h⟩ := h
  refine EvX.blk (pc' := 19) [(.iload_n 3, 0, 0), (.aload_n 0, 0, 0), (.getfield 15, 1, 1)] (by decide +kernel) ⟨g_Game_15, trivial⟩ ⟨o1, ?_⟩
  show Ev (d + 1) M_Game_boxWorth 0 0 19 [(2, v0), (0, v1), (0, v2), (0, v3), zJ, zJ] [(0, m v0 1), (0, v3)] kd m (zqI kd q)
  refine EvX.icmp_ge (off := 75) (tgt := 94) (by decide +kernel) (by decide) (fun hc => ?_) (fun hc => ?_)
  · have h := h.1 hc
    refine EvX.blk (pc' := 97) [(.iinc 2 1, 0, 0)] (by decide +kernel) trivial ?_
    show Ev (d + 1) M_Game_boxWorth 0 0 97 [(2, v0), (0, v1), (0, iw (v2 + 1)), (0, v3), zJ, zJ] [] kd m (zqI kd q)
    refine EvX.goto (off := (-93)) (tgt := 4) (by decide +kernel) (by decide) ?_
    exact EvX.weak (ls2 := [(2, v0), (0, v1), (0, iw (v2 + 1)), zJ, zJ, zJ]) (zwk_of ⟨Or.inr rfl, Or.inr rfl, Or.inr rfl, Or.inl rfl, Or.inl rfl, Or.inl rfl, trivial⟩) h
  · have h := h.2 hc
    refine EvX.blk (pc' := 25) [(.iconst 0, 0, 0), (.istore 4, 0, 0)] (by decide +kernel) trivial ?_
    show Ev (d + 1) M_Game_boxWorth 0 0 25 [(2, v0), (0, v1), (0, v2), (0, v3), (0, 0), zJ] [] kd m (zqI kd q)
    exact h
set_option maxRecDepth 20000 in
set_option maxHeartbeats 1000000 in
theorem T_Game_boxWorth_25 {d : Nat} {kd : ZK} {m : ZM} {q : Int → ZM → Prop} {v0 v1 v2 v3 v4 : Int} (h : (zobj kd v0 1 ∧ (((m v0 2) ≤ v4 → (Ev (d + 1) M_Game_boxWorth 0 0 14 [(2, v0), (0, v1), (0, v2), (0, iw (v3 + 1)), zJ, zJ] [] kd m (zqI kd q))) ∧ (¬ (m v0 2) ≤ v4 → (Ev (d + 1) M_Game_boxWorth 0 0 37 [(2, v0), (0, v1), (0, v2), (0, v3), (0, v4), (0, 0)] [] kd m (zqI kd q)))))) : Ev (d + 1) M_Game_boxWorth 0 0 25 [(2, v0), (0, v1), (0, v2), (0, v3), (0, v4), zJ] [] kd m (zqI kd q) := by
  obtain ⟨o1, h⟩ := h
  refine EvX.blk (pc' := 31) [(.iload 4, 0, 0), (.aload_n 0, 0, 0), (.getfield 18, 1, 2)] (by decide +kernel) ⟨g_Game_18, trivial⟩ ⟨o1, ?_⟩
  show Ev (d + 1) M_Game_boxWorth 0 0 31 [(2, v0), (0, v1), (0, v2), (0, v3), (0, v4), zJ] [(0, m v0 2), (0, v4)] kd m (zqI kd q)
  refine EvX.icmp_ge (off := 57) (tgt := 88) (by decide +kernel) (by decide) (fun hc => ?_) (fun hc => ?_)
  · have h := h.1 hc
    refine EvX.blk (pc' := 91) [(.iinc 3 1, 0, 0)] (by decide +kernel) trivial ?_
    show Ev (d + 1) M_Game_boxWorth 0 0 91 [(2, v0), (0, v1), (0, v2), (0, iw (v3 + 1)), (0, v4), zJ] [] kd m (zqI kd q)
    refine EvX.goto (off := (-77)) (tgt := 14) (by decide +kernel) (by decide) ?_
    exact EvX.weak (ls2 := [(2, v0), (0, v1), (0, v2), (0, iw (v3 + 1)), zJ, zJ]) (zwk_of ⟨Or.inr rfl, Or.inr rfl, Or.inr rfl, Or.inr rfl, Or.inl rfl, Or.inl rfl, trivial⟩) h
  · have h := h.2 hc
    refine EvX.blk (pc' := 37) [(.iconst 0, 0, 0), (.istore 5, 0, 0)] (by decide +kernel) trivial ?_
    show Ev (d + 1) M_Game_boxWorth 0 0 37 [(2, v0), (0, v1), (0, v2), (0, v3), (0, v4), (0, 0)] [] kd m (zqI kd q)
    exact h
set_option maxRecDepth 20000 in
set_option maxHeartbeats 1000000 in
theorem T_Game_boxWorth_37 {d : Nat} {kd : ZK} {m : ZM} {q : Int → ZM → Prop} {v0 v1 v2 v3 v4 v5 : Int} (h : (zobj kd v0 1 ∧ (((m v0 3) ≤ v5 → (Ev (d + 1) M_Game_boxWorth 0 0 25 [(2, v0), (0, v1), (0, v2), (0, v3), (0, iw (v4 + 1)), zJ] [] kd m (zqI kd q))) ∧ (¬ (m v0 3) ≤ v5 → (zobj kd v0 1 ∧ ∃ q1, CtI d M_Game_gain [(2, v0), (0, 0), (0, v2), (0, v3), (0, v4), (0, v5)] kd m q1 ∧ ∀ x2 m3, q1 x2 m3 → (zobj kd v0 1 ∧ (∃ q4, CtI d M_Ap_spotOf [(0, 0), (0, v2), (0, v3), (0, v4), (0, v5)] kd m3 q4 ∧ ∀ x5 m6, q4 x5 m6 → (zIn kd (m3 v0 6) 0 x5 ∧ (Ev (d + 1) M_Game_boxWorth 0 0 37 [(2, v0), (0, iw (v1 + (iw (x2 * (m6 (m3 v0 6) x5))))), (0, v2), (0, v3), (0, v4), (0, iw (v5 + 1))] [] kd m6 (zqI kd q)))))))))) : Ev (d + 1) M_Game_boxWorth 0 0 37 [(2, v0), (0, v1), (0, v2), (0, v3), (0, v4), (0, v5)] [] kd m (zqI kd q) := by
  obtain ⟨o1, h⟩ := h
  refine EvX.blk (pc' := 43) [(.iload 5, 0, 0), (.aload_n 0, 0, 0), (.getfield 21, 1, 3)] (by decide +kernel) ⟨g_Game_21, trivial⟩ ⟨o1, ?_⟩
  show Ev (d + 1) M_Game_boxWorth 0 0 43 [(2, v0), (0, v1), (0, v2), (0, v3), (0, v4), (0, v5)] [(0, m v0 3), (0, v5)] kd m (zqI kd q)
  refine EvX.icmp_ge (off := 39) (tgt := 82) (by decide +kernel) (by decide) (fun hc => ?_) (fun hc => ?_)
  · have h := h.1 hc
    refine EvX.blk (pc' := 85) [(.iinc 4 1, 0, 0)] (by decide +kernel) trivial ?_
    show Ev (d + 1) M_Game_boxWorth 0 0 85 [(2, v0), (0, v1), (0, v2), (0, v3), (0, iw (v4 + 1)), (0, v5)] [] kd m (zqI kd q)
    refine EvX.goto (off := (-60)) (tgt := 25) (by decide +kernel) (by decide) ?_
    exact EvX.weak (ls2 := [(2, v0), (0, v1), (0, v2), (0, v3), (0, iw (v4 + 1)), zJ]) (zwk_of ⟨Or.inr rfl, Or.inr rfl, Or.inr rfl, Or.inr rfl, Or.inr rfl, Or.inl rfl, trivial⟩) h
  · have h := h.2 hc
    refine EvX.blk (pc' := 55) [(.iload_n 1, 0, 0), (.aload_n 0, 0, 0), (.iconst 0, 0, 0), (.iload_n 2, 0, 0), (.iload_n 3, 0, 0), (.iload 4, 0, 0), (.iload 5, 0, 0)] (by decide +kernel) trivial ?_
    show Ev (d + 1) M_Game_boxWorth 0 0 55 [(2, v0), (0, v1), (0, v2), (0, v3), (0, v4), (0, v5)] [(0, v5), (0, v4), (0, v3), (0, v2), (0, 0), (2, v0), (0, v1)] kd m (zqI kd q)
    obtain ⟨ov, h⟩ := h
    obtain ⟨q1, hq, h⟩ := h
    refine EvX.callV (c := 1) (mc := 0) (ms := 0) (as := [(0, 0), (0, v2), (0, v3), (0, v4), (0, v5)]) (st := [(0, v1)]) (by decide +kernel) l_Game_93 k_Game_gain v_Game_gain a_Game_gain (by decide) (Nat.le_of_ble_eq_true rfl) rfl ov hq (fun r kd1 m3 hr => ?_)
    obtain ⟨x2, rfl, hk, hr⟩ := hr
    subst kd1
    have h := h x2 m3 hr
    show Ev (d + 1) M_Game_boxWorth 0 0 58 [(2, v0), (0, v1), (0, v2), (0, v3), (0, v4), (0, v5)] [(0, x2), (0, v1)] kd m3 (zqI kd q)
    obtain ⟨o1, h⟩ := h
    refine EvX.blk (pc' := 69) [(.aload_n 0, 0, 0), (.getfield 31, 1, 6), (.iconst 0, 0, 0), (.iload_n 2, 0, 0), (.iload_n 3, 0, 0), (.iload 4, 0, 0), (.iload 5, 0, 0)] (by decide +kernel) ⟨g_Game_31, trivial⟩ ⟨o1, ?_⟩
    show Ev (d + 1) M_Game_boxWorth 0 0 69 [(2, v0), (0, v1), (0, v2), (0, v3), (0, v4), (0, v5)] [(0, v5), (0, v4), (0, v3), (0, v2), (0, 0), (2, m3 v0 6), (0, x2), (0, v1)] kd m3 (zqI kd q)
    obtain ⟨q4, hq, h⟩ := h
    refine EvX.callS (mc := 0) (ms := 0) (as := [(0, 0), (0, v2), (0, v3), (0, v4), (0, v5)]) (st := [(2, m3 v0 6), (0, x2), (0, v1)]) (by decide +kernel) l_Game_48 k_Ap_spotOf s_Ap_spotOf a_Ap_spotOf (by decide) (Nat.le_of_ble_eq_true rfl) hq (fun r kd1 m6 hr => ?_)
    obtain ⟨x5, rfl, hk, hr⟩ := hr
    subst kd1
    have h := h x5 m6 hr
    show Ev (d + 1) M_Game_boxWorth 0 0 72 [(2, v0), (0, v1), (0, v2), (0, v3), (0, v4), (0, v5)] [(0, x5), (2, m3 v0 6), (0, x2), (0, v1)] kd m6 (zqI kd q)
    obtain ⟨o1, h⟩ := h
    refine EvX.blk (pc' := 79) [(.iaload, 0, 0), (.imul, 0, 0), (.iadd, 0, 0), (.istore_n 1, 0, 0), (.iinc 5 1, 0, 0)] (by decide +kernel) trivial ⟨o1, ?_⟩
    show Ev (d + 1) M_Game_boxWorth 0 0 79 [(2, v0), (0, iw (v1 + (iw (x2 * (m6 (m3 v0 6) x5))))), (0, v2), (0, v3), (0, v4), (0, iw (v5 + 1))] [] kd m6 (zqI kd q)
    refine EvX.goto (off := (-42)) (tgt := 37) (by decide +kernel) (by decide) ?_
    exact h
set_option maxRecDepth 20000 in
set_option maxHeartbeats 1000000 in
theorem T_Game_isWhole_0 {d : Nat} {kd : ZK} {m : ZM} {q : Int → ZM → Prop} {v0 : Int} (h : (Ev (d + 1) M_Game_isWhole 0 0 2 [(2, v0), (0, 0), zJ, zJ, zJ] [] kd m (zqI kd q))) : Ev (d + 1) M_Game_isWhole 0 0 0 [(2, v0), zJ, zJ, zJ, zJ] [] kd m (zqI kd q) := by
  refine EvX.blk (pc' := 2) [(.iconst 0, 0, 0), (.istore_n 1, 0, 0)] (by decide +kernel) trivial ?_
  show Ev (d + 1) M_Game_isWhole 0 0 2 [(2, v0), (0, 0), zJ, zJ, zJ] [] kd m (zqI kd q)
  exact h
theorem S_Game_isWhole {d : Nat} {kd : ZK} {m : ZM} {q : Int → ZM → Prop} {v0 : Int} (h : (Ev (d + 1) M_Game_isWhole 0 0 2 [(2, v0), (0, 0), zJ, zJ, zJ] [] kd m (zqI kd q))) : CtI (d + 1) M_Game_isWhole [(2, v0)] kd m q :=
  Ct.start k_Game_isWhole (Nat.le_of_ble_eq_true rfl) ⟨2, Or.inr (Or.inr (Or.inl ⟨rfl, rfl⟩))⟩ (T_Game_isWhole_0 h)
set_option maxRecDepth 20000 in
set_option maxHeartbeats 1000000 in
theorem T_Game_isWhole_2 {d : Nat} {kd : ZK} {m : ZM} {q : Int → ZM → Prop} {v0 v1 : Int} (h : (zobj kd v0 1 ∧ (((m v0 0) ≤ v1 → q 1 m) ∧ (¬ (m v0 0) ≤ v1 → (Ev (d + 1) M_Game_isWhole 0 0 12 [(2, v0), (0, v1), (0, 0), zJ, zJ] [] kd m (zqI kd q)))))) : Ev (d + 1) M_Game_isWhole 0 0 2 [(2, v0), (0, v1), zJ, zJ, zJ] [] kd m (zqI kd q) := by
  obtain ⟨o1, h⟩ := h
  refine EvX.blk (pc' := 7) [(.iload_n 1, 0, 0), (.aload_n 0, 0, 0), (.getfield 11, 1, 0)] (by decide +kernel) ⟨g_Game_11, trivial⟩ ⟨o1, ?_⟩
  show Ev (d + 1) M_Game_isWhole 0 0 7 [(2, v0), (0, v1), zJ, zJ, zJ] [(0, m v0 0), (0, v1)] kd m (zqI kd q)
  refine EvX.icmp_ge (off := 65) (tgt := 72) (by decide +kernel) (by decide) (fun hc => ?_) (fun hc => ?_)
  · have h := h.1 hc
    refine EvX.blk (pc' := 73) [(.iconst 1, 0, 0)] (by decide +kernel) trivial ?_
    show Ev (d + 1) M_Game_isWhole 0 0 73 [(2, v0), (0, v1), zJ, zJ, zJ] [(0, 1)] kd m (zqI kd q)
    exact EvX.ret (r := (0, 1)) (by decide +kernel) ⟨rfl, by decide, by decide⟩ ⟨_, rfl, rfl, h⟩
  · have h := h.2 hc
    refine EvX.blk (pc' := 12) [(.iconst 0, 0, 0), (.istore_n 2, 0, 0)] (by decide +kernel) trivial ?_
    show Ev (d + 1) M_Game_isWhole 0 0 12 [(2, v0), (0, v1), (0, 0), zJ, zJ] [] kd m (zqI kd q)
    exact h
set_option maxRecDepth 20000 in
set_option maxHeartbeats 1000000 in
theorem T_Game_isWhole_12 {d : Nat} {kd : ZK} {m : ZM} {q : Int → ZM → Prop} {v0 v1 v2 : Int} (h : (zobj kd v0 1 ∧ (((m v0 1) ≤ v2 → (Ev (d + 1) M_Game_isWhole 0 0 2 [(2, v0), (0, iw (v1 + 1)), zJ, zJ, zJ] [] kd m (zqI kd q))) ∧ (¬ (m v0 1) ≤ v2 → (Ev (d + 1) M_Game_isWhole 0 0 25 [(2, v0), (0, v1), (0, v2), (0, 0), (0, 0)] [] kd m (zqI kd q)))))) : Ev (d + 1) M_Game_isWhole 0 0 12 [(2, v0), (0, v1), (0, v2), zJ, zJ] [] kd m (zqI kd q) := by
  obtain ⟨o1, h⟩ := h
  refine EvX.blk (pc' := 17) [(.iload_n 2, 0, 0), (.aload_n 0, 0, 0), (.getfield 15, 1, 1)] (by decide +kernel) ⟨g_Game_15, trivial⟩ ⟨o1, ?_⟩
  show Ev (d + 1) M_Game_isWhole 0 0 17 [(2, v0), (0, v1), (0, v2), zJ, zJ] [(0, m v0 1), (0, v2)] kd m (zqI kd q)
  refine EvX.icmp_ge (off := 49) (tgt := 66) (by decide +kernel) (by decide) (fun hc => ?_) (fun hc => ?_)
  · have h := h.1 hc
    refine EvX.blk (pc' := 69) [(.iinc 1 1, 0, 0)] (by decide +kernel) trivial ?_
    show Ev (d + 1) M_Game_isWhole 0 0 69 [(2, v0), (0, iw (v1 + 1)), (0, v2), zJ, zJ] [] kd m (zqI kd q)
    refine EvX.goto (off := (-67)) (tgt := 2) (by decide +kernel) (by decide) ?_
    exact EvX.weak (ls2 := [(2, v0), (0, iw (v1 + 1)), zJ, zJ, zJ]) (zwk_of ⟨Or.inr rfl, Or.inr rfl, Or.inl rfl, Or.inl rfl, Or.inl rfl, trivial⟩) h
  · have h := h.2 hc
    refine EvX.blk (pc' := 25) [(.iconst 0, 0, 0), (.istore_n 3, 0, 0), (.iconst 0, 0, 0), (.istore 4, 0, 0)] (by decide +kernel) trivial ?_
    show Ev (d + 1) M_Game_isWhole 0 0 25 [(2, v0), (0, v1), (0, v2), (0, 0), (0, 0)] [] kd m (zqI kd q)
    exact h
set_option maxRecDepth 20000 in
set_option maxHeartbeats 1000000 in
theorem T_Game_isWhole_25 {d : Nat} {kd : ZK} {m : ZM} {q : Int → ZM → Prop} {v0 v1 v2 v3 v4 : Int} (h : (zobj kd v0 1 ∧ (((m v0 2) ≤ v4 → ((v3 = 12 → (Ev (d + 1) M_Game_isWhole 0 0 12 [(2, v0), (0, v1), (0, iw (v2 + 1)), zJ, zJ] [] kd m (zqI kd q))) ∧ (¬ v3 = 12 → q 0 m))) ∧ (¬ (m v0 2) ≤ v4 → (zobj kd v0 1 ∧ ∃ q1, CtI d M_Game_howOften [(2, v0), (0, 0), (0, v1), (0, v4), (0, v2)] kd m q1 ∧ ∀ x2 m3, q1 x2 m3 → (Ev (d + 1) M_Game_isWhole 0 0 25 [(2, v0), (0, v1), (0, v2), (0, iw (v3 + x2)), (0, iw (v4 + 1))] [] kd m3 (zqI kd q))))))) : Ev (d + 1) M_Game_isWhole 0 0 25 [(2, v0), (0, v1), (0, v2), (0, v3), (0, v4)] [] kd m (zqI kd q) := by
  obtain ⟨o1, h⟩ := h
  refine EvX.blk (pc' := 31) [(.iload 4, 0, 0), (.aload_n 0, 0, 0), (.getfield 18, 1, 2)] (by decide +kernel) ⟨g_Game_18, trivial⟩ ⟨o1, ?_⟩
  show Ev (d + 1) M_Game_isWhole 0 0 31 [(2, v0), (0, v1), (0, v2), (0, v3), (0, v4)] [(0, m v0 2), (0, v4)] kd m (zqI kd q)
  refine EvX.icmp_ge (off := 21) (tgt := 52) (by decide +kernel) (by decide) (fun hc => ?_) (fun hc => ?_)
  · have h := h.1 hc
    refine EvX.blk (pc' := 55) [(.iload_n 3, 0, 0), (.bipush 12, 0, 0)] (by decide +kernel) trivial ?_
    show Ev (d + 1) M_Game_isWhole 0 0 55 [(2, v0), (0, v1), (0, v2), (0, v3), (0, v4)] [(0, 12), (0, v3)] kd m (zqI kd q)
    refine EvX.icmp_eq (off := 5) (tgt := 60) (by decide +kernel) (by decide) (fun hc => ?_) (fun hc => ?_)
    · have h := h.1 hc
      refine EvX.blk (pc' := 63) [(.iinc 2 1, 0, 0)] (by decide +kernel) trivial ?_
      show Ev (d + 1) M_Game_isWhole 0 0 63 [(2, v0), (0, v1), (0, iw (v2 + 1)), (0, v3), (0, v4)] [] kd m (zqI kd q)
      refine EvX.goto (off := (-51)) (tgt := 12) (by decide +kernel) (by decide) ?_
      exact EvX.weak (ls2 := [(2, v0), (0, v1), (0, iw (v2 + 1)), zJ, zJ]) (zwk_of ⟨Or.inr rfl, Or.inr rfl, Or.inr rfl, Or.inl rfl, Or.inl rfl, trivial⟩) h
    · have h := h.2 hc
      refine EvX.blk (pc' := 59) [(.iconst 0, 0, 0)] (by decide +kernel) trivial ?_
      show Ev (d + 1) M_Game_isWhole 0 0 59 [(2, v0), (0, v1), (0, v2), (0, v3), (0, v4)] [(0, 0)] kd m (zqI kd q)
      exact EvX.ret (r := (0, 0)) (by decide +kernel) ⟨rfl, by decide, by decide⟩ ⟨_, rfl, rfl, h⟩
  · have h := h.2 hc
    refine EvX.blk (pc' := 41) [(.iload_n 3, 0, 0), (.aload_n 0, 0, 0), (.iconst 0, 0, 0), (.iload_n 1, 0, 0), (.iload 4, 0, 0), (.iload_n 2, 0, 0)] (by decide +kernel) trivial ?_
    show Ev (d + 1) M_Game_isWhole 0 0 41 [(2, v0), (0, v1), (0, v2), (0, v3), (0, v4)] [(0, v2), (0, v4), (0, v1), (0, 0), (2, v0), (0, v3)] kd m (zqI kd q)
    obtain ⟨ov, h⟩ := h
    obtain ⟨q1, hq, h⟩ := h
    refine EvX.callV (c := 1) (mc := 0) (ms := 0) (as := [(0, 0), (0, v1), (0, v4), (0, v2)]) (st := [(0, v3)]) (by decide +kernel) l_Game_110 k_Game_howOften v_Game_howOften a_Game_howOften (by decide) (Nat.le_of_ble_eq_true rfl) rfl ov hq (fun r kd1 m3 hr => ?_)
    obtain ⟨x2, rfl, hk, hr⟩ := hr
    subst kd1
    have h := h x2 m3 hr
    show Ev (d + 1) M_Game_isWhole 0 0 44 [(2, v0), (0, v1), (0, v2), (0, v3), (0, v4)] [(0, x2), (0, v3)] kd m3 (zqI kd q)
    refine EvX.blk (pc' := 49) [(.iadd, 0, 0), (.istore_n 3, 0, 0), (.iinc 4 1, 0, 0)] (by decide +kernel) trivial ?_
    show Ev (d + 1) M_Game_isWhole 0 0 49 [(2, v0), (0, v1), (0, v2), (0, iw (v3 + x2)), (0, iw (v4 + 1))] [] kd m3 (zqI kd q)
    refine EvX.goto (off := (-24)) (tgt := 25) (by decide +kernel) (by decide) ?_
    exact h
set_option maxRecDepth 20000 in
set_option maxHeartbeats 1000000 in
theorem T_Game_howOften_0 {d : Nat} {kd : ZK} {m : ZM} {q : Int → ZM → Prop} {v0 v1 v2 v3 v4 : Int} (h : (Ev (d + 1) M_Game_howOften 0 0 6 [(2, v0), (0, v1), (0, v2), (0, v3), (0, v4), (0, 0), (0, 0)] [] kd m (zqI kd q))) : Ev (d + 1) M_Game_howOften 0 0 0 [(2, v0), (0, v1), (0, v2), (0, v3), (0, v4), zJ, zJ] [] kd m (zqI kd q) := by
  refine EvX.blk (pc' := 6) [(.iconst 0, 0, 0), (.istore 5, 0, 0), (.iconst 0, 0, 0), (.istore 6, 0, 0)] (by decide +kernel) trivial ?_
  show Ev (d + 1) M_Game_howOften 0 0 6 [(2, v0), (0, v1), (0, v2), (0, v3), (0, v4), (0, 0), (0, 0)] [] kd m (zqI kd q)
  exact h
theorem S_Game_howOften {d : Nat} {kd : ZK} {m : ZM} {q : Int → ZM → Prop} {v0 v1 v2 v3 v4 : Int} (h : (Ev (d + 1) M_Game_howOften 0 0 6 [(2, v0), (0, v1), (0, v2), (0, v3), (0, v4), (0, 0), (0, 0)] [] kd m (zqI kd q))) : CtI (d + 1) M_Game_howOften [(2, v0), (0, v1), (0, v2), (0, v3), (0, v4)] kd m q :=
  Ct.start k_Game_howOften (Nat.le_of_ble_eq_true rfl) ⟨1, Or.inr (Or.inl ⟨rfl, rfl⟩)⟩ (T_Game_howOften_0 h)
set_option maxRecDepth 20000 in
set_option maxHeartbeats 1000000 in
theorem T_Game_howOften_6 {d : Nat} {kd : ZK} {m : ZM} {q : Int → ZM → Prop} {v0 v1 v2 v3 v4 v5 v6 : Int} (h : (zobj kd v0 1 ∧ ∃ q1, CtI d M_Game_answersOf [(2, v0), (0, iw (1 - v1))] kd m q1 ∧ ∀ x2 m3, q1 x2 m3 → ((x2 ≤ v6 → q v5 m3) ∧ (¬ x2 ≤ v6 → (zobj kd v0 1 ∧ (∃ q4, CtI d M_Ap_spotOf [(0, v1), (0, v2), (0, v4), (0, v3), (0, v6)] kd m3 q4 ∧ ∀ x5 m6, q4 x5 m6 → (zIn kd (m3 v0 6) 0 x5 ∧ (Ev (d + 1) M_Game_howOften 0 0 6 [(2, v0), (0, v1), (0, v2), (0, v3), (0, v4), (0, iw (v5 + (m6 (m3 v0 6) x5))), (0, iw (v6 + 1))] [] kd m6 (zqI kd q))))))))) : Ev (d + 1) M_Game_howOften 0 0 6 [(2, v0), (0, v1), (0, v2), (0, v3), (0, v4), (0, v5), (0, v6)] [] kd m (zqI kd q) := by
  refine EvX.blk (pc' := 12) [(.iload 6, 0, 0), (.aload_n 0, 0, 0), (.iconst 1, 0, 0), (.iload_n 1, 0, 0), (.isub, 0, 0)] (by decide +kernel) trivial ?_
  show Ev (d + 1) M_Game_howOften 0 0 12 [(2, v0), (0, v1), (0, v2), (0, v3), (0, v4), (0, v5), (0, v6)] [(0, iw (1 - v1)), (2, v0), (0, v6)] kd m (zqI kd q)
  obtain ⟨ov, h⟩ := h
  obtain ⟨q1, hq, h⟩ := h
  refine EvX.callV (c := 1) (mc := 0) (ms := 0) (as := [(0, iw (1 - v1))]) (st := [(0, v6)]) (by decide +kernel) l_Game_60 k_Game_answersOf v_Game_answersOf a_Game_answersOf (by decide) (Nat.le_of_ble_eq_true rfl) rfl ov hq (fun r kd1 m3 hr => ?_)
  obtain ⟨x2, rfl, hk, hr⟩ := hr
  subst kd1
  have h := h x2 m3 hr
  show Ev (d + 1) M_Game_howOften 0 0 15 [(2, v0), (0, v1), (0, v2), (0, v3), (0, v4), (0, v5), (0, v6)] [(0, x2), (0, v6)] kd m3 (zqI kd q)
  refine EvX.icmp_ge (off := 29) (tgt := 44) (by decide +kernel) (by decide) (fun hc => ?_) (fun hc => ?_)
  · have h := h.1 hc
    refine EvX.blk (pc' := 46) [(.iload 5, 0, 0)] (by decide +kernel) trivial ?_
    show Ev (d + 1) M_Game_howOften 0 0 46 [(2, v0), (0, v1), (0, v2), (0, v3), (0, v4), (0, v5), (0, v6)] [(0, v5)] kd m3 (zqI kd q)
    exact EvX.ret (r := (0, v5)) (by decide +kernel) rfl ⟨_, rfl, rfl, h⟩
  · have h := h.2 hc
    obtain ⟨o1, h⟩ := h
    refine EvX.blk (pc' := 31) [(.iload 5, 0, 0), (.aload_n 0, 0, 0), (.getfield 31, 1, 6), (.iload_n 1, 0, 0), (.iload_n 2, 0, 0), (.iload 4, 0, 0), (.iload_n 3, 0, 0), (.iload 6, 0, 0)] (by decide +kernel) ⟨g_Game_31, trivial⟩ ⟨o1, ?_⟩
    show Ev (d + 1) M_Game_howOften 0 0 31 [(2, v0), (0, v1), (0, v2), (0, v3), (0, v4), (0, v5), (0, v6)] [(0, v6), (0, v3), (0, v4), (0, v2), (0, v1), (2, m3 v0 6), (0, v5)] kd m3 (zqI kd q)
    obtain ⟨q4, hq, h⟩ := h
    refine EvX.callS (mc := 0) (ms := 0) (as := [(0, v1), (0, v2), (0, v4), (0, v3), (0, v6)]) (st := [(2, m3 v0 6), (0, v5)]) (by decide +kernel) l_Game_48 k_Ap_spotOf s_Ap_spotOf a_Ap_spotOf (by decide) (Nat.le_of_ble_eq_true rfl) hq (fun r kd1 m6 hr => ?_)
    obtain ⟨x5, rfl, hk, hr⟩ := hr
    subst kd1
    have h := h x5 m6 hr
    show Ev (d + 1) M_Game_howOften 0 0 34 [(2, v0), (0, v1), (0, v2), (0, v3), (0, v4), (0, v5), (0, v6)] [(0, x5), (2, m3 v0 6), (0, v5)] kd m6 (zqI kd q)
    obtain ⟨o1, h⟩ := h
    refine EvX.blk (pc' := 41) [(.iaload, 0, 0), (.iadd, 0, 0), (.istore 5, 0, 0), (.iinc 6 1, 0, 0)] (by decide +kernel) trivial ⟨o1, ?_⟩
    show Ev (d + 1) M_Game_howOften 0 0 41 [(2, v0), (0, v1), (0, v2), (0, v3), (0, v4), (0, iw (v5 + (m6 (m3 v0 6) x5))), (0, iw (v6 + 1))] [] kd m6 (zqI kd q)
    refine EvX.goto (off := (-35)) (tgt := 6) (by decide +kernel) (by decide) ?_
    exact h
set_option maxRecDepth 20000 in
set_option maxHeartbeats 1000000 in
theorem T_Game_signalsTo_0 {d : Nat} {kd : ZK} {m : ZM} {q : Int → ZM → Prop} {v0 v1 : Int} (h : (Ev (d + 1) M_Game_signalsTo 0 0 2 [(2, v0), (0, v1), (0, 0), zJ, zJ, zJ] [] kd m (zqI kd q))) : Ev (d + 1) M_Game_signalsTo 0 0 0 [(2, v0), (0, v1), zJ, zJ, zJ, zJ] [] kd m (zqI kd q) := by
  refine EvX.blk (pc' := 2) [(.iconst 0, 0, 0), (.istore_n 2, 0, 0)] (by decide +kernel) trivial ?_
  show Ev (d + 1) M_Game_signalsTo 0 0 2 [(2, v0), (0, v1), (0, 0), zJ, zJ, zJ] [] kd m (zqI kd q)
  exact h
theorem S_Game_signalsTo {d : Nat} {kd : ZK} {m : ZM} {q : Int → ZM → Prop} {v0 v1 : Int} (h : (Ev (d + 1) M_Game_signalsTo 0 0 2 [(2, v0), (0, v1), (0, 0), zJ, zJ, zJ] [] kd m (zqI kd q))) : CtI (d + 1) M_Game_signalsTo [(2, v0), (0, v1)] kd m q :=
  Ct.start k_Game_signalsTo (Nat.le_of_ble_eq_true rfl) ⟨2, Or.inr (Or.inr (Or.inl ⟨rfl, rfl⟩))⟩ (T_Game_signalsTo_0 h)
set_option maxRecDepth 20000 in
set_option maxHeartbeats 1000000 in
theorem T_Game_signalsTo_2 {d : Nat} {kd : ZK} {m : ZM} {q : Int → ZM → Prop} {v0 v1 v2 : Int} (h : (zobj kd v0 1 ∧ ∃ q1, CtI d M_Game_questionsOf [(2, v0), (0, v1)] kd m q1 ∧ ∀ x2 m3, q1 x2 m3 → ((x2 ≤ v2 → q 0 m3) ∧ (¬ x2 ≤ v2 → (Ev (d + 1) M_Game_signalsTo 0 0 13 [(2, v0), (0, v1), (0, v2), (0, 0), zJ, zJ] [] kd m3 (zqI kd q)))))) : Ev (d + 1) M_Game_signalsTo 0 0 2 [(2, v0), (0, v1), (0, v2), zJ, zJ, zJ] [] kd m (zqI kd q) := by
  refine EvX.blk (pc' := 5) [(.iload_n 2, 0, 0), (.aload_n 0, 0, 0), (.iload_n 1, 0, 0)] (by decide +kernel) trivial ?_
  show Ev (d + 1) M_Game_signalsTo 0 0 5 [(2, v0), (0, v1), (0, v2), zJ, zJ, zJ] [(0, v1), (2, v0), (0, v2)] kd m (zqI kd q)
  obtain ⟨ov, h⟩ := h
  obtain ⟨q1, hq, h⟩ := h
  refine EvX.callV (c := 1) (mc := 0) (ms := 0) (as := [(0, v1)]) (st := [(0, v2)]) (by decide +kernel) l_Game_56 k_Game_questionsOf v_Game_questionsOf a_Game_questionsOf (by decide) (Nat.le_of_ble_eq_true rfl) rfl ov hq (fun r kd1 m3 hr => ?_)
  obtain ⟨x2, rfl, hk, hr⟩ := hr
  subst kd1
  have h := h x2 m3 hr
  show Ev (d + 1) M_Game_signalsTo 0 0 8 [(2, v0), (0, v1), (0, v2), zJ, zJ, zJ] [(0, x2), (0, v2)] kd m3 (zqI kd q)
  refine EvX.icmp_ge (off := 73) (tgt := 81) (by decide +kernel) (by decide) (fun hc => ?_) (fun hc => ?_)
  · have h := h.1 hc
    refine EvX.blk (pc' := 82) [(.iconst 0, 0, 0)] (by decide +kernel) trivial ?_
    show Ev (d + 1) M_Game_signalsTo 0 0 82 [(2, v0), (0, v1), (0, v2), zJ, zJ, zJ] [(0, 0)] kd m3 (zqI kd q)
    exact EvX.ret (r := (0, 0)) (by decide +kernel) ⟨rfl, by decide, by decide⟩ ⟨_, rfl, rfl, h⟩
  · have h := h.2 hc
    refine EvX.blk (pc' := 13) [(.iconst 0, 0, 0), (.istore_n 3, 0, 0)] (by decide +kernel) trivial ?_
    show Ev (d + 1) M_Game_signalsTo 0 0 13 [(2, v0), (0, v1), (0, v2), (0, 0), zJ, zJ] [] kd m3 (zqI kd q)
    exact h
set_option maxRecDepth 20000 in
set_option maxHeartbeats 1000000 in
theorem T_Game_signalsTo_13 {d : Nat} {kd : ZK} {m : ZM} {q : Int → ZM → Prop} {v0 v1 v2 v3 : Int} (h : (zobj kd v0 1 ∧ ∃ q1, CtI d M_Game_answersOf [(2, v0), (0, v1)] kd m q1 ∧ ∀ x2 m3, q1 x2 m3 → ((x2 ≤ v3 → (Ev (d + 1) M_Game_signalsTo 0 0 2 [(2, v0), (0, v1), (0, iw (v2 + 1)), zJ, zJ, zJ] [] kd m3 (zqI kd q))) ∧ (¬ x2 ≤ v3 → (zobj kd v0 1 ∧ ∃ q4, CtI d M_Game_howOften [(2, v0), (0, v1), (0, v2), (0, v3), (0, 0)] kd m3 q4 ∧ ∀ x5 m6, q4 x5 m6 → (Ev (d + 1) M_Game_signalsTo 0 0 35 [(2, v0), (0, v1), (0, v2), (0, v3), (0, x5), (0, 1)] [] kd m6 (zqI kd q))))))) : Ev (d + 1) M_Game_signalsTo 0 0 13 [(2, v0), (0, v1), (0, v2), (0, v3), zJ, zJ] [] kd m (zqI kd q) := by
  refine EvX.blk (pc' := 16) [(.iload_n 3, 0, 0), (.aload_n 0, 0, 0), (.iload_n 1, 0, 0)] (by decide +kernel) trivial ?_
  show Ev (d + 1) M_Game_signalsTo 0 0 16 [(2, v0), (0, v1), (0, v2), (0, v3), zJ, zJ] [(0, v1), (2, v0), (0, v3)] kd m (zqI kd q)
  obtain ⟨ov, h⟩ := h
  obtain ⟨q1, hq, h⟩ := h
  refine EvX.callV (c := 1) (mc := 0) (ms := 0) (as := [(0, v1)]) (st := [(0, v3)]) (by decide +kernel) l_Game_60 k_Game_answersOf v_Game_answersOf a_Game_answersOf (by decide) (Nat.le_of_ble_eq_true rfl) rfl ov hq (fun r kd1 m3 hr => ?_)
  obtain ⟨x2, rfl, hk, hr⟩ := hr
  subst kd1
  have h := h x2 m3 hr
  show Ev (d + 1) M_Game_signalsTo 0 0 19 [(2, v0), (0, v1), (0, v2), (0, v3), zJ, zJ] [(0, x2), (0, v3)] kd m3 (zqI kd q)
  refine EvX.icmp_ge (off := 56) (tgt := 75) (by decide +kernel) (by decide) (fun hc => ?_) (fun hc => ?_)
  · have h := h.1 hc
    refine EvX.blk (pc' := 78) [(.iinc 2 1, 0, 0)] (by decide +kernel) trivial ?_
    show Ev (d + 1) M_Game_signalsTo 0 0 78 [(2, v0), (0, v1), (0, iw (v2 + 1)), (0, v3), zJ, zJ] [] kd m3 (zqI kd q)
    refine EvX.goto (off := (-76)) (tgt := 2) (by decide +kernel) (by decide) ?_
    exact EvX.weak (ls2 := [(2, v0), (0, v1), (0, iw (v2 + 1)), zJ, zJ, zJ]) (zwk_of ⟨Or.inr rfl, Or.inr rfl, Or.inr rfl, Or.inl rfl, Or.inl rfl, Or.inl rfl, trivial⟩) h
  · have h := h.2 hc
    refine EvX.blk (pc' := 27) [(.aload_n 0, 0, 0), (.iload_n 1, 0, 0), (.iload_n 2, 0, 0), (.iload_n 3, 0, 0), (.iconst 0, 0, 0)] (by decide +kernel) trivial ?_
    show Ev (d + 1) M_Game_signalsTo 0 0 27 [(2, v0), (0, v1), (0, v2), (0, v3), zJ, zJ] [(0, 0), (0, v3), (0, v2), (0, v1), (2, v0)] kd m3 (zqI kd q)
    obtain ⟨ov, h⟩ := h
    obtain ⟨q4, hq, h⟩ := h
    refine EvX.callV (c := 1) (mc := 0) (ms := 0) (as := [(0, v1), (0, v2), (0, v3), (0, 0)]) (st := []) (by decide +kernel) l_Game_110 k_Game_howOften v_Game_howOften a_Game_howOften (by decide) (Nat.le_of_ble_eq_true rfl) rfl ov hq (fun r kd1 m6 hr => ?_)
    obtain ⟨x5, rfl, hk, hr⟩ := hr
    subst kd1
    have h := h x5 m6 hr
    show Ev (d + 1) M_Game_signalsTo 0 0 30 [(2, v0), (0, v1), (0, v2), (0, v3), zJ, zJ] [(0, x5)] kd m6 (zqI kd q)
    refine EvX.blk (pc' := 35) [(.istore 4, 0, 0), (.iconst 1, 0, 0), (.istore 5, 0, 0)] (by decide +kernel) trivial ?_
    show Ev (d + 1) M_Game_signalsTo 0 0 35 [(2, v0), (0, v1), (0, v2), (0, v3), (0, x5), (0, 1)] [] kd m6 (zqI kd q)
    exact h
set_option maxRecDepth 20000 in
set_option maxHeartbeats 1000000 in
theorem T_Game_signalsTo_35 {d : Nat} {kd : ZK} {m : ZM} {q : Int → ZM → Prop} {v0 v1 v2 v3 v4 v5 : Int} (h : (zobj kd v0 1 ∧ ∃ q1, CtI d M_Game_questionsOf [(2, v0), (0, iw (1 - v1))] kd m q1 ∧ ∀ x2 m3, q1 x2 m3 → ((x2 ≤ v5 → (Ev (d + 1) M_Game_signalsTo 0 0 13 [(2, v0), (0, v1), (0, v2), (0, iw (v3 + 1)), zJ, zJ] [] kd m3 (zqI kd q))) ∧ (¬ x2 ≤ v5 → (zobj kd v0 1 ∧ ∃ q4, CtI d M_Game_howOften [(2, v0), (0, v1), (0, v2), (0, v3), (0, v5)] kd m3 q4 ∧ ∀ x5 m6, q4 x5 m6 → ((x5 = v4 → (Ev (d + 1) M_Game_signalsTo 0 0 35 [(2, v0), (0, v1), (0, v2), (0, v3), (0, v4), (0, iw (v5 + 1))] [] kd m6 (zqI kd q))) ∧ (¬ x5 = v4 → q 1 m6))))))) : Ev (d + 1) M_Game_signalsTo 0 0 35 [(2, v0), (0, v1), (0, v2), (0, v3), (0, v4), (0, v5)] [] kd m (zqI kd q) := by
  refine EvX.blk (pc' := 41) [(.iload 5, 0, 0), (.aload_n 0, 0, 0), (.iconst 1, 0, 0), (.iload_n 1, 0, 0), (.isub, 0, 0)] (by decide +kernel) trivial ?_
  show Ev (d + 1) M_Game_signalsTo 0 0 41 [(2, v0), (0, v1), (0, v2), (0, v3), (0, v4), (0, v5)] [(0, iw (1 - v1)), (2, v0), (0, v5)] kd m (zqI kd q)
  obtain ⟨ov, h⟩ := h
  obtain ⟨q1, hq, h⟩ := h
  refine EvX.callV (c := 1) (mc := 0) (ms := 0) (as := [(0, iw (1 - v1))]) (st := [(0, v5)]) (by decide +kernel) l_Game_56 k_Game_questionsOf v_Game_questionsOf a_Game_questionsOf (by decide) (Nat.le_of_ble_eq_true rfl) rfl ov hq (fun r kd1 m3 hr => ?_)
  obtain ⟨x2, rfl, hk, hr⟩ := hr
  subst kd1
  have h := h x2 m3 hr
  show Ev (d + 1) M_Game_signalsTo 0 0 44 [(2, v0), (0, v1), (0, v2), (0, v3), (0, v4), (0, v5)] [(0, x2), (0, v5)] kd m3 (zqI kd q)
  refine EvX.icmp_ge (off := 25) (tgt := 69) (by decide +kernel) (by decide) (fun hc => ?_) (fun hc => ?_)
  · have h := h.1 hc
    refine EvX.blk (pc' := 72) [(.iinc 3 1, 0, 0)] (by decide +kernel) trivial ?_
    show Ev (d + 1) M_Game_signalsTo 0 0 72 [(2, v0), (0, v1), (0, v2), (0, iw (v3 + 1)), (0, v4), (0, v5)] [] kd m3 (zqI kd q)
    refine EvX.goto (off := (-59)) (tgt := 13) (by decide +kernel) (by decide) ?_
    exact EvX.weak (ls2 := [(2, v0), (0, v1), (0, v2), (0, iw (v3 + 1)), zJ, zJ]) (zwk_of ⟨Or.inr rfl, Or.inr rfl, Or.inr rfl, Or.inr rfl, Or.inl rfl, Or.inl rfl, trivial⟩) h
  · have h := h.2 hc
    refine EvX.blk (pc' := 53) [(.aload_n 0, 0, 0), (.iload_n 1, 0, 0), (.iload_n 2, 0, 0), (.iload_n 3, 0, 0), (.iload 5, 0, 0)] (by decide +kernel) trivial ?_
    show Ev (d + 1) M_Game_signalsTo 0 0 53 [(2, v0), (0, v1), (0, v2), (0, v3), (0, v4), (0, v5)] [(0, v5), (0, v3), (0, v2), (0, v1), (2, v0)] kd m3 (zqI kd q)
    obtain ⟨ov, h⟩ := h
    obtain ⟨q4, hq, h⟩ := h
    refine EvX.callV (c := 1) (mc := 0) (ms := 0) (as := [(0, v1), (0, v2), (0, v3), (0, v5)]) (st := []) (by decide +kernel) l_Game_110 k_Game_howOften v_Game_howOften a_Game_howOften (by decide) (Nat.le_of_ble_eq_true rfl) rfl ov hq (fun r kd1 m6 hr => ?_)
    obtain ⟨x5, rfl, hk, hr⟩ := hr
    subst kd1
    have h := h x5 m6 hr
    show Ev (d + 1) M_Game_signalsTo 0 0 56 [(2, v0), (0, v1), (0, v2), (0, v3), (0, v4), (0, v5)] [(0, x5)] kd m6 (zqI kd q)
    refine EvX.blk (pc' := 58) [(.iload 4, 0, 0)] (by decide +kernel) trivial ?_
    show Ev (d + 1) M_Game_signalsTo 0 0 58 [(2, v0), (0, v1), (0, v2), (0, v3), (0, v4), (0, v5)] [(0, v4), (0, x5)] kd m6 (zqI kd q)
    refine EvX.icmp_eq (off := 5) (tgt := 63) (by decide +kernel) (by decide) (fun hc => ?_) (fun hc => ?_)
    · have h := h.1 hc
      refine EvX.blk (pc' := 66) [(.iinc 5 1, 0, 0)] (by decide +kernel) trivial ?_
      show Ev (d + 1) M_Game_signalsTo 0 0 66 [(2, v0), (0, v1), (0, v2), (0, v3), (0, v4), (0, iw (v5 + 1))] [] kd m6 (zqI kd q)
      refine EvX.goto (off := (-31)) (tgt := 35) (by decide +kernel) (by decide) ?_
      exact h
    · have h := h.2 hc
      refine EvX.blk (pc' := 62) [(.iconst 1, 0, 0)] (by decide +kernel) trivial ?_
      show Ev (d + 1) M_Game_signalsTo 0 0 62 [(2, v0), (0, v1), (0, v2), (0, v3), (0, v4), (0, v5)] [(0, 1)] kd m6 (zqI kd q)
      exact EvX.ret (r := (0, 1)) (by decide +kernel) ⟨rfl, by decide, by decide⟩ ⟨_, rfl, rfl, h⟩
