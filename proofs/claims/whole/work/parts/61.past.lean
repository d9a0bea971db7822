/-! PAST: a ring of ten games -/
def psl (n s i : Int) : Int := (n + 10 - s + i) % 10
def PC (kd : ZK) (m : ZM) (P : Int → GR) (s : Int) : Prop := (zobj kd 3 2 ∧ m 3 0 = 4 ∧ zarr kd 4 3 10) ∧ (∀ i, 0 ≤ i → i < 10 → m 4 i = 5 + 4 * i ∧ GS kd m (5 + 4 * i)) ∧ (0 ≤ m 3 1 ∧ m 3 1 < 10) ∧ (m 3 2 = s ∧ 0 ≤ s ∧ s ≤ 10) ∧ ∀ i, 0 ≤ i → i < s → CG kd m (5 + 4 * psl (m 3 1) s i) (P i) ∧ GOK (P i)
def pushP (P : Int → GR) (s : Int) (G : GR) : Int → GR := fun i => if s = 10 then (if i = 9 then G else P (i + 1)) else (if i = s then G else P i)
theorem PC.frame {kd : ZK} {m m' : ZM} {P : Int → GR} {s : Int} (h : PC kd m P s) (e : ∀ c, 3 ≤ c → c ≤ 44 → m' c = m c) : PC kd m' P s := by
  have e3 := e 3 (by omega) (by omega)
  have e4 := e 4 (by omega) (by omega)
  unfold PC
  rw [e3, e4]
  refine ⟨h.1, fun i h1 h2 => ⟨(h.2.1 i h1 h2).1, (h.2.1 i h1 h2).2.frame (e _ (by omega) (by omega))⟩, h.2.2.1, h.2.2.2.1, fun i h1 h2 => ⟨(h.2.2.2.2 i h1 h2).1.frame (fun a a1 a2 => ?_), (h.2.2.2.2 i h1 h2).2⟩⟩
  unfold psl at a1 a2
  exact e a (by omega) (by omega)
theorem c_Past_forget {d : Nat} {kd : ZK} {m : ZM} {P : Int → GR} {s : Int} (hP : PC kd m P s) : CtV (d + 1) M_Past_forget [(2, 3)] kd m (fun m1 => PC kd m1 P 0 ∧ ∀ c, c ≠ 3 → m1 c = m c) := by
  refine S_Past_forget ?_
  refine ⟨hP.1.1, ?_⟩
  refine ⟨?_, fun c hc => zup_off hc⟩
  have e0 : (zup m 3 2 0) 3 0 = m 3 0 := by rw [zup_at, gup_off (by decide)]
  have e1 : (zup m 3 2 0) 3 1 = m 3 1 := by rw [zup_at, gup_off (by decide)]
  have e2 : (zup m 3 2 0) 3 2 = 0 := by rw [zup_at, gup_at]
  unfold PC
  rw [e0, e1, e2, zup_off (show (4 : Int) ≠ 3 by decide)]
  exact ⟨hP.1, fun i h1 h2 => ⟨(hP.2.1 i h1 h2).1, (hP.2.1 i h1 h2).2.frame (zup_off (by omega))⟩, hP.2.2.1, ⟨rfl, by decide, by decide⟩, fun i h1 h2 => by omega⟩
theorem rem_fin {kd : ZK} {m m3 : ZM} {P : Int → GR} {s g : Int} {G : GR} (hP : PC kd m P s) (hc : CG kd m g G) (ho : GOK G) (hd : 44 < g) (hC : CG kd m3 (5 + 4 * m 3 1) G) (hF : ∀ c, (c < 5 + 4 * m 3 1 ∨ 5 + 4 * m 3 1 + 3 < c) → m3 c = m c) : PC kd (zup (zup m3 3 1 (Int.tmod (iw ((m3 3 1) + 1)) 10)) 3 2 (zmin (iw (((zup m3 3 1 (Int.tmod (iw ((m3 3 1) + 1)) 10)) 3 2) + 1)) 10)) (pushP P s G) (zmin (s + 1) 10) ∧ ∀ c, (c < 3 ∨ 44 < c) → (zup (zup m3 3 1 (Int.tmod (iw ((m3 3 1) + 1)) 10)) 3 2 (zmin (iw (((zup m3 3 1 (Int.tmod (iw ((m3 3 1) + 1)) 10)) 3 2) + 1)) 10)) c = m c := by
  have hn := hP.2.2.1
  have hs := hP.2.2.2.1
  have f3 := hF 3 (by omega)
  have f4 := hF 4 (by omega)
  have hm : zmin (s + 1) 10 = if s = 10 then 10 else s + 1 := by unfold zmin; split <;> split <;> omega
  rw [zup_at, gup_off (show (2 : Int) ≠ 1 by decide), f3, hs.1, iw_s (x := m 3 1 + 1) (by omega) (by omega), iw_s (x := s + 1) (by omega) (by omega), Int.tmod_eq_emod_of_nonneg (by omega)]
  generalize hN : (m 3 1 + 1) % 10 = N
  generalize hS : zmin (s + 1) 10 = S at *
  have k3 : ∀ c, c ≠ 3 → (zup (zup m3 3 1 N) 3 2 S) c = m3 c := fun c h => by rw [zup_off h, zup_off h]
  have k0 : (zup (zup m3 3 1 N) 3 2 S) 3 0 = 4 := by rw [zup_at, gup_off (by decide), zup_at, gup_off (by decide), f3]; exact hP.1.2.1
  have k1 : (zup (zup m3 3 1 N) 3 2 S) 3 1 = N := by rw [zup_at, gup_off (by decide), zup_at, gup_at]
  have k2 : (zup (zup m3 3 1 N) 3 2 S) 3 2 = S := by rw [zup_at, gup_at]
  refine ⟨?_, fun c h => by rw [k3 c (by omega)]; exact hF c (by omega)⟩
  unfold PC
  rw [k0, k1, k2, k3 4 (by decide), f4]
  refine ⟨⟨hP.1.1, rfl, hP.1.2.2⟩, fun i h1 h2 => ⟨(hP.2.1 i h1 h2).1, ?_⟩, by omega, ⟨rfl, by split at hm <;> omega, by split at hm <;> omega⟩, fun i h1 h2 => ?_⟩
  · rcases Classical.em (i = m 3 1) with q | q
    · rw [q]; exact hC.1.frame (k3 _ (by omega))
    · exact (hP.2.1 i h1 h2).2.frame (by rw [k3 _ (by omega)]; exact hF _ (by omega))
  · have hgo : ∀ j, 0 ≤ j → j < s → psl (m 3 1) s j ≠ m 3 1 → CG kd (zup (zup m3 3 1 N) 3 2 S) (5 + 4 * psl (m 3 1) s j) (P j) ∧ GOK (P j) := fun j j1 j2 j3 => by
      have r := hP.2.2.2.2 j j1 j2
      unfold psl at *
      exact ⟨r.1.frame (fun a a1 a2 => by rw [k3 a (by omega)]; exact hF a (by omega)), r.2⟩
    have hnew : CG kd (zup (zup m3 3 1 N) 3 2 S) (5 + 4 * m 3 1) G := hC.frame (fun a a1 a2 => k3 a (by omega))
    unfold pushP
    by_cases hs10 : s = 10
    · rw [if_pos hs10] at hm
      rw [if_pos hs10]
      by_cases hi : i = 9
      · rw [if_pos hi, show psl N S i = m 3 1 by unfold psl; omega]
        exact ⟨hnew, ho⟩
      · rw [if_neg hi, show psl N S i = psl (m 3 1) s (i + 1) by unfold psl; omega]
        exact hgo (i + 1) (by omega) (by omega) (by unfold psl; omega)
    · rw [if_neg hs10] at hm
      rw [if_neg hs10]
      by_cases hi : i = s
      · rw [if_pos hi, show psl N S i = m 3 1 by unfold psl; omega]
        exact ⟨hnew, ho⟩
      · rw [if_neg hi, show psl N S i = psl (m 3 1) s i by unfold psl; omega]
        exact hgo i h1 (by omega) (by unfold psl; omega)
theorem c_Past_remember {d : Nat} {kd : ZK} {m : ZM} {P : Int → GR} {s g : Int} {G : GR} (hP : PC kd m P s) (hc : CG kd m g G) (ho : GOK G) (hd : 44 < g) : CtV (d + 2) M_Past_remember [(2, 3), (2, g)] kd m (fun m1 => PC kd m1 (pushP P s G) (zmin (s + 1) 10) ∧ ∀ c, (c < 3 ∨ 44 < c) → m1 c = m c) := by
  have hn := hP.2.2.1
  have hs := hP.2.2.2.1
  have hsl := hP.2.1 (m 3 1) hn.1 hn.2
  have e1 := hP.1.2.1
  have e2 := hsl.1
  refine S_Past_remember ?_
  simp only [e1, e2]
  refine ⟨hP.1.1, hP.1.1, ⟨10, hP.1.2.2, hn.1, hn.2⟩, ?_⟩
  refine ⟨hsl.2.1, _, c_Game_become hsl.2 hc ho (by omega), ?_⟩
  rintro m3 ⟨hC, hF⟩
  refine ⟨hP.1.1, hP.1.1, hP.1.1, ?_⟩
  refine ⟨hP.1.1, ?_⟩
  exact rem_fin hP hc ho hd hC hF
