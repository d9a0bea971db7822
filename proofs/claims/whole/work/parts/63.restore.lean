/-! PAST: restore -/
theorem c_Past_restore {d : Nat} {kd : ZK} {m : ZM} {P : Int → GR} {s g : Int} (hP : PC kd m P s) (hs1 : 1 ≤ s) (hg : GS kd m g) (hd : 44 < g) : CtV (d + 2) M_Past_restore [(2, 3), (2, g)] kd m (fun m1 => PC kd m1 P (s - 1) ∧ CG kd m1 g (P (s - 1)) ∧ ∀ c, c ≠ 3 → (c < g ∨ g + 3 < c) → m1 c = m c) := by
  have hn := hP.2.2.1
  have hs := hP.2.2.2.1
  refine US_Past_restore ⟨hP.1.1, hP.1.1, ?_⟩
  rw [iw_s (x := m 3 1 + 10) (by omega) (by omega), iw_s (x := m 3 1 + 10 - 1) (by omega) (by omega), Int.tmod_eq_emod_of_nonneg (by omega)]
  refine U_Past_restore_16 ⟨hP.1.1, hP.1.1, ?_⟩
  rw [zup_at, gup_off (show (2 : Int) ≠ 1 by decide), hs.1, iw_s (x := s - 1) (by omega) (by omega)]
  generalize hN : (m 3 1 + 10 - 1) % 10 = N
  generalize hM : zup (zup m 3 1 N) 3 2 (s - 1) = mm
  have k3 : ∀ c, c ≠ 3 → mm c = m c := fun c h => by rw [← hM, zup_off h, zup_off h]
  have k0 : mm 3 0 = 4 := by rw [← hM, zup_at, gup_off (by decide), zup_at, gup_off (by decide)]; exact hP.1.2.1
  have k1 : mm 3 1 = N := by rw [← hM, zup_at, gup_off (by decide), zup_at, gup_at]
  have k2 : mm 3 2 = s - 1 := by rw [← hM, zup_at, gup_at]
  have hsl := hP.2.1 N (by omega) (by omega)
  have e2 : mm 4 N = 5 + 4 * N := by rw [k3 4 (by decide)]; exact hsl.1
  have ht : psl (m 3 1) s (s - 1) = N := by unfold psl; omega
  have hr := hP.2.2.2.2 (s - 1) (by omega) (by omega)
  rw [ht] at hr
  have hQ : PC kd mm P (s - 1) := by
    unfold PC
    rw [k0, k1, k2, k3 4 (by decide)]
    refine ⟨⟨hP.1.1, rfl, hP.1.2.2⟩, fun i h1 h2 => ⟨(hP.2.1 i h1 h2).1, (hP.2.1 i h1 h2).2.frame (k3 _ (by omega))⟩, by omega, ⟨rfl, by omega, by omega⟩, fun i h1 h2 => ?_⟩
    have r := hP.2.2.2.2 i h1 (by omega)
    rw [show psl N (s - 1) i = psl (m 3 1) s i by unfold psl; omega]
    exact ⟨r.1.frame (fun a a1 a2 => k3 a (by unfold psl at a1; omega)), r.2⟩
  refine U_Past_restore_26 ⟨hP.1.1, hP.1.1, ?_⟩
  rw [k0, k1, e2]
  refine ⟨⟨10, hP.1.2.2, by omega, by omega⟩, hg.1, _, c_Game_become (hg.frame (k3 g (by omega))) (hr.1.frame (fun a a1 a2 => k3 a (by omega))) hr.2 (by omega), fun m3 hm => ?_⟩
  exact ⟨hQ.frame (fun c c1 c2 => hm.2 c (by omega)), hm.1, fun c c1 c2 => by rw [hm.2 c c2]; exact k3 c c1⟩
