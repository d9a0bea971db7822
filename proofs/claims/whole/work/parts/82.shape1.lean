/-! SHAPE: parts -/
def SH (kd : ZK) (m : ZM) : Prop := zobj kd 56 4 ∧ (m 56 0 = 57 ∧ m 56 1 = 58 ∧ m 56 2 = 59) ∧ zarr kd 57 0 10 ∧ zarr kd 58 0 25 ∧ zarr kd 59 0 5
theorem SH.frame {kd : ZK} {m m' : ZM} (h : SH kd m) (e : m' 56 = m 56) : SH kd m' := by unfold SH; rw [e]; exact h
def wE (G : GR) (x y : Int) : Prop := (0 ≤ x ∧ x < G 0) ∧ (0 ≤ y ∧ y < G 1) ∧ 0 < gW G x y
def conn (G : GR) (u v : Int) : Prop := ∀ S : Int → Prop, (∀ x y, wE G x y → (S x ↔ S (5 + y))) → S u → S v
def vtx (G : GR) (i : Int) : Prop := (0 ≤ i ∧ i < G 0) ∨ (5 ≤ i ∧ i < 5 + G 1)
def isLab (G : GR) (M : Int → Int) : Prop := ∀ u, vtx G u → vtx G (M u) ∧ conn G u (M u) ∧ ∀ v, vtx G v → conn G u v → M u ≤ v
theorem conn_r {G : GR} (u : Int) : conn G u u := fun _ _ h => h
theorem conn_t {G : GR} {u v w : Int} (h : conn G u v) (k : conn G v w) : conn G u w := fun S hS hu => k S hS (h S hS hu)
theorem conn_s {G : GR} {u v : Int} (h : conn G u v) : conn G v u := fun S hS hv => Classical.byContradiction fun hn => h (fun z => ¬ S z) (fun x y hxy => not_congr (hS x y hxy)) hn hv
theorem conn_e {G : GR} {x y : Int} (h : wE G x y) : conn G x (5 + y) := fun S hS hx => (hS x y h).1 hx
theorem isLab_eq {G : GR} {M N : Int → Int} (h : isLab G M) (k : isLab G N) {u : Int} (hu : vtx G u) : M u = N u := by
  have a := h u hu
  have b := k u hu
  have c := a.2.2 _ b.1 b.2.1
  have d := b.2.2 _ a.1 a.2.1
  omega
/-- labels that are reached, and not above -/
def isSub (G : GR) (M : Int → Int) : Prop := ∀ u, vtx G u → vtx G (M u) ∧ conn G u (M u) ∧ M u ≤ u
theorem isLab_of {G : GR} {M : Int → Int} (h : isSub G M) (k : ∀ x y, wE G x y → M x = M (5 + y)) : isLab G M := fun u hu => by
  have a := h u hu
  refine ⟨a.1, a.2.1, fun v hv hc => ?_⟩
  have e := hc (fun z => M z = M u) (fun x y hxy => by rw [k x y hxy]) rfl
  have b := h v hv
  omega
def jnM (M : Int → Int) (a b i : Int) : Int := if M i = a ∨ M i = b then zmin a b else M i
theorem isSub_jn {G : GR} {M : Int → Int} {x y : Int} (h : isSub G M) (he : wE G x y) : isSub G (jnM M (M x) (M (5 + y))) := fun u hu => by
  have hx := h x (Or.inl he.1)
  have hy := h (5 + y) (Or.inr ⟨by have := he.2.1; omega, by have := he.2.1; omega⟩)
  have a := h u hu
  have hxy := conn_e he
  unfold jnM
  split
  · rename_i e
    have c1 : conn G u (M x) := by
      rcases e with e | e
      · rw [← e]; exact a.2.1
      · have := a.2.1
        rw [e] at this
        exact conn_t this (conn_t (conn_s hy.2.1) (conn_t (conn_s hxy) hx.2.1))
    have c2 : conn G u (M (5 + y)) := conn_t c1 (conn_t (conn_s hx.2.1) (conn_t hxy hy.2.1))
    have l1 := zmin_l (M x) (M (5 + y))
    have l2 := zmin_r (M x) (M (5 + y))
    rcases zmin_c (M x) (M (5 + y)) with q | q
    · rw [q] at l1 l2 ⊢; exact ⟨hx.1, c1, by omega⟩
    · rw [q] at l1 l2 ⊢; exact ⟨hy.1, c2, by omega⟩
  · exact a
theorem c_Shape_joinParts {d : Nat} {kd : ZK} {m : ZM} {a b : Int} (hS : SH kd m) : CtV (d + 1) M_Shape_joinParts [(2, 56), (0, a), (0, b)] kd m (fun m1 => (∀ e, e ≠ 57 → m1 e = m e) ∧ ∀ i, 0 ≤ i → i < 10 → m1 57 i = jnM (m 57) a b i) := by
  have L0 := zfor1 (10) (fun (i : Int) (mm : ZM) => Ev (d + 1) M_Shape_joinParts 0 0 9 [(2, 56), (0, a), (0, b), (0, (zmin a b)), (0, i)] [] kd mm (zqV kd (fun m1 => (∀ e, e ≠ 57 → m1 e = m e) ∧ ∀ i, 0 ≤ i → i < 10 → m1 57 i = jnM (m 57) a b i))) (fun (i : Int) (mm : ZM) => 0 ≤ i ∧ (∀ e, e ≠ 57 → mm e = m e) ∧ (∀ j, 0 ≤ j → j < i → mm 57 j = jnM (m 57) a b j) ∧ ∀ j, i ≤ j → mm 57 j = m 57 j) (by
    intro i mm hb hI0 KL0
    obtain ⟨hi0, hF, hX, hY⟩ := hI0
    have hSm := hS.frame (hF 56 (by decide))
    have hyi := hY i (Int.le_refl _)
    have s0 := hSm.2.1.1
    have s1 := hSm.2.1.2.1
    have s2 := hSm.2.1.2.2
    refine T_Shape_joinParts_9 ?_
    try simp only [s0, s1, s2]
    simp only [hyi]
    refine ⟨hSm.1, hSm.2.2.1, ?_⟩
    refine ⟨fun c1 => ?_, fun c1 => ?_⟩
    · skip
      exact ⟨hF, fun j j0 j1 => hX j j0 (by omega)⟩
    · skip
      refine ⟨hSm.1, ⟨10, hSm.2.2.1, by omega, by omega⟩, ?_⟩
      refine ⟨fun c2 => ?_, fun c2 => ?_⟩
      · skip
        refine ⟨hSm.1, ⟨10, hSm.2.2.1, by omega, by omega⟩, ?_⟩
        rw [iw_s (x := i + 1) (by omega) (by omega)]
        have ej : jnM (m 57) a b i = zmin a b := by unfold jnM; exact if_pos (by first | exact Or.inl (by omega) | exact Or.inr (by omega))
        refine KL0 _ (by omega) ⟨by omega, fun e he => by rw [zup_off he]; exact hF e he, fun j j0 j1 => ?_, fun j hj => by rw [zup_at, gup_off (by omega)]; exact hY j (by omega)⟩
        rw [zup_at]
        rcases (show j = i ∨ j < i by omega) with q | q
        · rw [q, gup_at, ej]
        · rw [gup_off (by omega)]; exact hX j j0 q
      · skip
        refine ⟨hSm.1, ⟨10, hSm.2.2.1, by omega, by omega⟩, ?_⟩
        refine ⟨fun c3 => ?_, fun c3 => ?_⟩
        · skip
          rw [iw_s (x := i + 1) (by omega) (by omega)]
          have ej : jnM (m 57) a b i = m 57 i := by unfold jnM; exact if_neg (fun h => by rcases h with h | h <;> first | exact absurd h (by assumption) | omega)
          refine KL0 _ (by omega) ⟨by omega, hF, fun j j0 j1 => ?_, fun j hj => hY j (by omega)⟩
          rcases (show j = i ∨ j < i by omega) with q | q
          · rw [q, hyi, ej]
          · exact hX j j0 q
        · skip
          refine ⟨hSm.1, ⟨10, hSm.2.2.1, by omega, by omega⟩, ?_⟩
          rw [iw_s (x := i + 1) (by omega) (by omega)]
          have ej : jnM (m 57) a b i = zmin a b := by unfold jnM; exact if_pos (by first | exact Or.inl (by omega) | exact Or.inr (by omega))
          refine KL0 _ (by omega) ⟨by omega, fun e he => by rw [zup_off he]; exact hF e he, fun j j0 j1 => ?_, fun j hj => by rw [zup_at, gup_off (by omega)]; exact hY j (by omega)⟩
          rw [zup_at]
          rcases (show j = i ∨ j < i by omega) with q | q
          · rw [q, gup_at, ej]
          · rw [gup_off (by omega)]; exact hX j j0 q)
  refine S_Shape_joinParts ?_
  exact L0 0 m (by omega) ⟨by omega, fun _ _ => rfl, fun j j0 j1 => by omega, fun _ _ => rfl⟩
theorem c_Shape_markParts {d : Nat} {kd : ZK} {m : ZM} {g : Int} {G : GR} (hS : SH kd m) (hg : CG kd m g G) (ho : GOK G) (hz : 59 < g) : CtV (d + 2) M_Shape_markParts [(2, 56), (2, g)] kd m (fun m1 => (∀ e, e ≠ 57 → m1 e = m e) ∧ isLab G (m1 57) ∧ ∀ i, 0 ≤ i → i < 10 → ¬ vtx G i → m1 57 i = -1) := by
  have h0 := ho.1
  have L0 := zfor1 (G 0) (fun (x : Int) (mm : ZM) => Ev (d + 2) M_Shape_markParts 0 0 57 [(2, 56), (2, g), (0, x), zJ] [] kd mm (zqV kd (fun m1 => (∀ e, e ≠ 57 → m1 e = m e) ∧ isLab G (m1 57) ∧ ∀ i, 0 ≤ i → i < 10 → ¬ vtx G i → m1 57 i = -1))) (fun (x : Int) (mm : ZM) => 0 ≤ x ∧ (∀ e, e ≠ 57 → mm e = m e) ∧ isSub G (mm 57) ∧ (∀ i, 0 ≤ i → i < 10 → ¬ vtx G i → mm 57 i = -1) ∧ (∀ u v, wE G u v → (u < x ∨ u = x ∧ v < 0) → mm 57 u = mm 57 (5 + v))) (by
    intro x mm hb hI0 KL0
    obtain ⟨hx0, hF, hU, hV, hE⟩ := hI0
    have hSm := hS.frame (m' := mm) (hF 56 (by decide))
    have hgm : CG kd mm g G := hg.frame (fun a a1 a2 => hF a (by omega))
    have s0 := hSm.2.1.1
    have s1 := hSm.2.1.2.1
    have s2 := hSm.2.1.2.2
    have k0 := hgm.2.1.1
    have k1 := hgm.2.1.2.1
    have k2 := hgm.2.1.2.2.1
    have k3 := hgm.2.1.2.2.2
    have L1 := zfor1 (G 1) (fun (y : Int) (mm : ZM) => Ev (d + 2) M_Shape_markParts 0 0 67 [(2, 56), (2, g), (0, x), (0, y)] [] kd mm (zqV kd (fun m1 => (∀ e, e ≠ 57 → m1 e = m e) ∧ isLab G (m1 57) ∧ ∀ i, 0 ≤ i → i < 10 → ¬ vtx G i → m1 57 i = -1))) (fun (y : Int) (mm : ZM) => (0 ≤ y ∧ x < G 0) ∧ (∀ e, e ≠ 57 → mm e = m e) ∧ isSub G (mm 57) ∧ (∀ i, 0 ≤ i → i < 10 → ¬ vtx G i → mm 57 i = -1) ∧ (∀ u v, wE G u v → (u < x ∨ u = x ∧ v < y) → mm 57 u = mm 57 (5 + v))) (by
      intro y mm hb hI1 KL1
      obtain ⟨⟨hy0, hxl⟩, hF, hU, hV, hE⟩ := hI1
      have e5 : iw (5 + y) = 5 + y := iw_s (by omega) (by omega)
      have hSm := hS.frame (m' := mm) (hF 56 (by decide))
      have hgm : CG kd mm g G := hg.frame (fun a a1 a2 => hF a (by omega))
      have s0 := hSm.2.1.1
      have s1 := hSm.2.1.2.1
      have s2 := hSm.2.1.2.2
      have k0 := hgm.2.1.1
      have k1 := hgm.2.1.2.1
      have k2 := hgm.2.1.2.2.1
      have k3 := hgm.2.1.2.2.2
      refine T_Shape_markParts_67 ?_
      try simp only [s0, s1, s2]
      try simp only [k0, k1, k2, k3]
      simp only [e5]
      refine ⟨hgm.1.1, ?_⟩
      refine ⟨fun c1 => ?_, fun c1 => ?_⟩
      · skip
        rw [iw_s (x := x + 1) (by omega) (by omega)]
        exact KL0 mm (by omega) ⟨by omega, hF, hU, hV, fun u v h hh => hE u v h (by have := h.2.1; omega)⟩
      · skip
        refine ⟨hgm.1.1, ?_⟩
        refine ⟨_, c_Ap_cellOf (by omega) (by omega), ?_⟩
        rintro _ _ ⟨rfl, rfl⟩
        try simp only [k0, k1, k2, k3]
        try simp only [s0, s1, s2]
        have hw := hgm.W0 (x := x) (y := y) (by omega) (by omega)
        try rw [hw]
        refine ⟨(hgm.1.inW (zC_in (by omega) (by omega))), ?_⟩
        refine ⟨fun c2 => ?_, fun c2 => ?_⟩
        · skip
          rw [iw_s (x := y + 1) (by omega) (by omega)]
          refine KL1 mm (by omega) ⟨⟨by omega, hxl⟩, hF, hU, hV, fun u v h hh => ?_⟩
          rcases (show (u < x ∨ u = x ∧ v < y) ∨ (u = x ∧ v = y) by omega) with q | q
          · exact hE u v h q
          · have := h.2.2
            rw [q.1, q.2] at this
            omega
        · skip
          refine ⟨hSm.1, ⟨10, hSm.2.2.1, by omega, by omega⟩, hSm.1, ⟨10, hSm.2.2.1, by omega, by omega⟩, ?_⟩
          refine ⟨hSm.1, _, c_Shape_joinParts hSm, ?_⟩
          rintro m6 ⟨hA, hB⟩
          rw [iw_s (x := y + 1) (by omega) (by omega)]
          have hxy : wE G x y := ⟨⟨hx0, hxl⟩, ⟨hy0, by omega⟩, by omega⟩
          have hUj := isSub_jn hU hxy
          have hvt : ∀ i, vtx G i → 0 ≤ i ∧ i < 10 := fun i h => by unfold vtx at h; omega
          refine KL1 m6 (by omega) ⟨⟨by omega, hxl⟩, fun e he => by rw [hA e he]; exact hF e he, fun u hu => ?_, fun i i0 i1 hi => ?_, fun u v h hh => ?_⟩
          · rw [hB u (hvt u hu).1 (hvt u hu).2]; exact hUj u hu
          · have e1 := hV i i0 i1 hi
            have a1 := hvt _ (hU x (Or.inl hxy.1)).1
            have a2 := hvt _ (hU (5 + y) (Or.inr ⟨by omega, by omega⟩)).1
            rw [hB i i0 i1, jnM, if_neg (by omega), e1]
          · have hu := hvt u (Or.inl h.1)
            have hv := hvt (5 + v) (Or.inr ⟨by have := h.2.1; omega, by have := h.2.1; omega⟩)
            rw [hB u hu.1 hu.2, hB (5 + v) hv.1 hv.2]
            rcases (show (u < x ∨ u = x ∧ v < y) ∨ (u = x ∧ v = y) by omega) with q | q
            · unfold jnM; rw [hE u v h q]
            · rw [q.1, q.2, jnM, jnM, if_pos (Or.inl rfl), if_pos (Or.inr rfl)])
    refine T_Shape_markParts_57 ?_
    try simp only [s0, s1, s2]
    try simp only [k0, k1, k2, k3]
    refine ⟨hgm.1.1, ?_⟩
    refine ⟨fun c1 => ?_, fun c1 => ?_⟩
    · skip
      exact ⟨hF, isLab_of hU (fun u v h => hE u v h (by have := h.1; omega)), hV⟩
    · skip
      exact L1 0 mm (by omega) ⟨⟨by omega, by omega⟩, hF, hU, hV, hE⟩)
  have L9 := zfor1 (5) (fun (i : Int) (mm : ZM) => Ev (d + 2) M_Shape_markParts 0 0 2 [(2, 56), (2, g), (0, i), zJ] [] kd mm (zqV kd (fun m1 => (∀ e, e ≠ 57 → m1 e = m e) ∧ isLab G (m1 57) ∧ ∀ i, 0 ≤ i → i < 10 → ¬ vtx G i → m1 57 i = -1))) (fun (i : Int) (mm : ZM) => 0 ≤ i ∧ (∀ e, e ≠ 57 → mm e = m e) ∧ ∀ j, 0 ≤ j → j < i → (mm 57 j = if j < G 0 then j else -1) ∧ mm 57 (5 + j) = if j < G 1 then 5 + j else -1) (by
    intro i mm hb hI KL9
    obtain ⟨hi0, hF, hX⟩ := hI
    have e5 : iw (5 + i) = 5 + i := iw_s (by omega) (by omega)
    have hSm := hS.frame (m' := mm) (hF 56 (by decide))
    have hgm : CG kd mm g G := hg.frame (fun a a1 a2 => hF a (by omega))
    have s0 := hSm.2.1.1
    have s1 := hSm.2.1.2.1
    have s2 := hSm.2.1.2.2
    have k0 := hgm.2.1.1
    have k1 := hgm.2.1.2.1
    have k2 := hgm.2.1.2.2.1
    have k3 := hgm.2.1.2.2.2
    refine T_Shape_markParts_2 ?_
    try simp only [s0, s1, s2]
    try simp only [k0, k1, k2, k3]
    refine ⟨fun c1 => ?_, fun c1 => ?_⟩
    · skip
      have hj : ∀ j, (0 ≤ j → j < 5 → mm 57 j = if j < G 0 then j else -1) ∧ (5 ≤ j → j < 10 → mm 57 j = if j - 5 < G 1 then j else -1) := fun j => ⟨fun j0 j1 => (hX j j0 (by omega)).1, fun j0 j1 => by
        have := (hX (j - 5) (by omega) (by omega)).2
        rw [show 5 + (j - 5) = j by omega] at this
        exact this⟩
      refine L0 0 mm (by omega) ⟨by omega, hF, fun u hu => ?_, fun j j0 j1 hv => ?_, fun u v h hh => absurd h.1.1 (by have := h.2.1; omega)⟩
      · have e : mm 57 u = u := by
          rcases hu with q | q
          · rw [(hj u).1 q.1 (by omega), if_pos q.2]
          · rw [(hj u).2 q.1 (by omega), if_pos (by omega)]
        rw [e]
        exact ⟨hu, conn_r u, Int.le_refl _⟩
      · unfold vtx at hv
        rcases (show j < 5 ∨ 5 ≤ j by omega) with q | q
        · rw [(hj j).1 j0 q, if_neg (by omega)]
        · rw [(hj j).2 q j1, if_neg (by omega)]
    · skip
      refine ⟨hSm.1, hgm.1.1, ?_⟩
      refine ⟨fun c2 => ?_, fun c2 => ?_⟩
      · skip
        refine T_Shape_markParts_25 ?_
        have zg : ∀ v, (zup mm 57 i v) g = mm g := fun v => zup_off (by omega)
        have z56 : ∀ v, (zup mm 57 i v) 56 = mm 56 := fun v => zup_off (by decide)
        simp only [zg, z56, s0, k1, e5]
        refine ⟨⟨10, hSm.2.2.1, by omega, by omega⟩, hSm.1, hgm.1.1, ?_⟩
        refine ⟨fun c1 => ?_, fun c1 => ?_⟩
        · skip
          refine ⟨⟨10, hSm.2.2.1, by omega, by omega⟩, ?_⟩
          rw [iw_s (x := i + 1) (by omega) (by omega)]
          refine KL9 _ (by omega) ⟨by omega, fun e he => by rw [zup_off he, zup_off he]; exact hF e he, fun j j0 j1 => ?_⟩
          simp only [zup_at]
          rcases (show j = i ∨ j < i by omega) with q | q
          · rw [q, gup_off (show i ≠ 5 + i by omega), gup_at, gup_at]
            exact ⟨by first | rw [if_pos (by omega)] | rw [if_neg (by omega)], by first | rw [if_pos (by omega)] | rw [if_neg (by omega)]⟩
          · rw [gup_off (by omega), gup_off (by omega), gup_off (by omega), gup_off (by omega)]; exact hX j j0 q
        · skip
          refine ⟨⟨10, hSm.2.2.1, by omega, by omega⟩, ?_⟩
          rw [iw_s (x := i + 1) (by omega) (by omega)]
          refine KL9 _ (by omega) ⟨by omega, fun e he => by rw [zup_off he, zup_off he]; exact hF e he, fun j j0 j1 => ?_⟩
          simp only [zup_at]
          rcases (show j = i ∨ j < i by omega) with q | q
          · rw [q, gup_off (show i ≠ 5 + i by omega), gup_at, gup_at]
            exact ⟨by first | rw [if_pos (by omega)] | rw [if_neg (by omega)], by first | rw [if_pos (by omega)] | rw [if_neg (by omega)]⟩
          · rw [gup_off (by omega), gup_off (by omega), gup_off (by omega), gup_off (by omega)]; exact hX j j0 q
      · skip
        refine T_Shape_markParts_25 ?_
        have zg : ∀ v, (zup mm 57 i v) g = mm g := fun v => zup_off (by omega)
        have z56 : ∀ v, (zup mm 57 i v) 56 = mm 56 := fun v => zup_off (by decide)
        simp only [zg, z56, s0, k1, e5]
        refine ⟨⟨10, hSm.2.2.1, by omega, by omega⟩, hSm.1, hgm.1.1, ?_⟩
        refine ⟨fun c1 => ?_, fun c1 => ?_⟩
        · skip
          refine ⟨⟨10, hSm.2.2.1, by omega, by omega⟩, ?_⟩
          rw [iw_s (x := i + 1) (by omega) (by omega)]
          refine KL9 _ (by omega) ⟨by omega, fun e he => by rw [zup_off he, zup_off he]; exact hF e he, fun j j0 j1 => ?_⟩
          simp only [zup_at]
          rcases (show j = i ∨ j < i by omega) with q | q
          · rw [q, gup_off (show i ≠ 5 + i by omega), gup_at, gup_at]
            exact ⟨by first | rw [if_pos (by omega)] | rw [if_neg (by omega)], by first | rw [if_pos (by omega)] | rw [if_neg (by omega)]⟩
          · rw [gup_off (by omega), gup_off (by omega), gup_off (by omega), gup_off (by omega)]; exact hX j j0 q
        · skip
          refine ⟨⟨10, hSm.2.2.1, by omega, by omega⟩, ?_⟩
          rw [iw_s (x := i + 1) (by omega) (by omega)]
          refine KL9 _ (by omega) ⟨by omega, fun e he => by rw [zup_off he, zup_off he]; exact hF e he, fun j j0 j1 => ?_⟩
          simp only [zup_at]
          rcases (show j = i ∨ j < i by omega) with q | q
          · rw [q, gup_off (show i ≠ 5 + i by omega), gup_at, gup_at]
            exact ⟨by first | rw [if_pos (by omega)] | rw [if_neg (by omega)], by first | rw [if_pos (by omega)] | rw [if_neg (by omega)]⟩
          · rw [gup_off (by omega), gup_off (by omega), gup_off (by omega), gup_off (by omega)]; exact hX j j0 q)
  refine S_Shape_markParts ?_
  exact L9 0 m (by omega) ⟨by omega, fun _ _ => rfl, fun j j0 j1 => by omega⟩
noncomputable def nPts (G : GR) (M : Int → Int) : Int := zsum (G 0).toNat (fun x => zb (M x = x)) + zsum (G 1).toNat (fun y => zb (M (5 + y) = 5 + y))
noncomputable def szP (G : GR) (M : Int → Int) (k : Int) : Int := zsum (G 0).toNat (fun x => zb (M x = k)) + zsum (G 1).toNat (fun y => zb (M (5 + y) = k))
def isGr (G : GR) (M : Int → Int) (x : Int) : Prop := (∀ k, szP G M k ≤ x) ∧ ∃ k, szP G M k = x
theorem isGr_eq {G : GR} {M : Int → Int} {x y : Int} (h : isGr G M x) (k : isGr G M y) : x = y := by
  obtain ⟨a, ha⟩ := h.2
  obtain ⟨b, hb⟩ := k.2
  have := h.1 b
  have := k.1 a
  omega
theorem zsum_pad {f : Int → Int} {a b : Nat} (h : a ≤ b) (hz : ∀ i : Int, a ≤ i → i < b → f i = 0) : zsum b f = zsum a f := by
  have := zsum_cat (f := f) a (b - a)
  rw [show a + (b - a) = b by omega] at this
  rw [this, zsum_zero (f := fun i => f (a + i)) (b - a) (fun i i0 i1 => hz _ (by omega) (by omega))]
  omega
theorem ten_split {G : GR} (ho : GOK G) {f : Int → Int} (hz : ∀ i, 0 ≤ i → i < 10 → ¬ vtx G i → f i = 0) : zsum 10 f = zsum (G 0).toNat f + zsum (G 1).toNat (fun y => f (5 + y)) := by
  have h0 := ho.1
  have h1 := zsum_cat (f := f) 5 5
  rw [show 5 + 5 = 10 from rfl] at h1
  rw [h1, zsum_pad (a := (G 0).toNat) (b := 5) (by omega) (fun i i0 i1 => hz i (by omega) (by omega) (by unfold vtx; omega)), zsum_pad (f := fun i => f (((5 : Nat) : Int) + i)) (a := (G 1).toNat) (b := 5) (by omega) (fun i i0 i1 => hz _ (by omega) (by omega) (by unfold vtx; omega))]
  rfl
theorem c_Shape_partsOf {d : Nat} {kd : ZK} {m : ZM} {g : Int} {G : GR} (hS : SH kd m) (hg : CG kd m g G) (ho : GOK G) (hz : 59 < g) : CtI (d + 3) M_Shape_partsOf [(2, 56), (2, g)] kd m (fun x m1 => (∃ M, isLab G M ∧ x = nPts G M) ∧ ∀ e, e ≠ 57 → m1 e = m e) := by
  have h0 := ho.1
  refine S_Shape_partsOf ⟨hS.1, _, c_Shape_markParts hS hg ho hz, ?_⟩
  rintro mm ⟨hF, hL, hV⟩
  have hSm := hS.frame (m' := mm) (hF 56 (by decide))
  have s0 := hSm.2.1.1
  have s1 := hSm.2.1.2.1
  have s2 := hSm.2.1.2.2
  have L0 := zfor1 (10) (fun (i : Int) (t : Int) => Ev (d + 3) M_Shape_partsOf 0 0 9 [(2, 56), zJ, (0, t), (0, i)] [] kd mm (zqI kd (fun x m1 => (∃ M, isLab G M ∧ x = nPts G M) ∧ ∀ e, e ≠ 57 → m1 e = m e))) (fun (i : Int) (t : Int) => 0 ≤ i ∧ t = zsum i.toNat (fun i => zb (mm 57 i = i))) (by
    intro i t hb hI0 KL0
    obtain ⟨hi0, ht⟩ := hI0
    have hs := zsum_le (C := 1) (f := (fun i => zb (mm 57 i = i))) (by decide) (fun _ => zb_01) i.toNat
    refine T_Shape_partsOf_9 ?_
    try simp only [s0, s1, s2]
    refine ⟨hSm.1, hSm.2.2.1, ?_⟩
    refine ⟨fun c1 => ?_, fun c1 => ?_⟩
    · skip
      refine ⟨⟨mm 57, hL, ?_⟩, hF⟩
      rw [ht, show i = 10 by omega]
      exact ten_split ho (fun i i0 i1 hv => by rw [hV i i0 i1 hv]; exact zb_f (by omega))
    · skip
      refine ⟨hSm.1, ⟨10, hSm.2.2.1, by omega, by omega⟩, ?_⟩
      refine ⟨fun c2 => ?_, fun c2 => ?_⟩
      · skip
        rw [iw_s (x := i + 1) (by omega) (by omega)]
        exact KL0 _ (by omega) ⟨by omega, by rw [zsum_1 hi0, ht, zb_f (by assumption)]; omega⟩
      · skip
        rw [iw_s (x := i + 1) (by omega) (by omega)]
        rw [iw_s (x := t + 1) (by omega) (by omega)]
        exact KL0 _ (by omega) ⟨by omega, by rw [zsum_1 hi0, ht, zb_t (by omega)]⟩)
  exact L0 0 0 (by omega) ⟨by omega, rfl⟩
theorem c_Shape_greatestPartOf {d : Nat} {kd : ZK} {m : ZM} {g : Int} {G : GR} (hS : SH kd m) (hg : CG kd m g G) (ho : GOK G) (hz : 59 < g) : CtI (d + 3) M_Shape_greatestPartOf [(2, 56), (2, g)] kd m (fun x m1 => (∃ M, isLab G M ∧ isGr G M x) ∧ ∀ e, e ≠ 57 → m1 e = m e) := by
  have h0 := ho.1
  refine S_Shape_greatestPartOf ⟨hS.1, _, c_Shape_markParts hS hg ho hz, ?_⟩
  rintro mm ⟨hF, hL, hV⟩
  have hSm := hS.frame (m' := mm) (hF 56 (by decide))
  have s0 := hSm.2.1.1
  have s1 := hSm.2.1.2.1
  have s2 := hSm.2.1.2.2
  have hsp : ∀ k, 0 ≤ k → zsum 10 (fun i => zb (mm 57 i = k)) = szP G (mm 57) k := fun k hk => ten_split ho (fun i i0 i1 hv => by rw [hV i i0 i1 hv]; exact zb_f (by omega))
  have hout : ∀ k, ¬ (0 ≤ k ∧ k < 10) → szP G (mm 57) k = 0 := fun k hk => by
    unfold szP
    rw [zsum_zero _ (fun i i0 i1 => zb_f (fun e => by
      have := (hL i (Or.inl ⟨i0, by omega⟩)).1
      unfold vtx at this
      omega)), zsum_zero _ (fun i i0 i1 => zb_f (fun e => by
      have := (hL (5 + i) (Or.inr ⟨by omega, by omega⟩)).1
      unfold vtx at this
      omega))]
    rfl
  have L0 := zfor1 (10) (fun (k : Int) (t : Int) => Ev (d + 3) M_Shape_greatestPartOf 0 0 9 [(2, 56), zJ, (0, t), (0, k), zJ, zJ] [] kd mm (zqI kd (fun x m1 => (∃ M, isLab G M ∧ isGr G M x) ∧ ∀ e, e ≠ 57 → m1 e = m e))) (fun (k : Int) (t : Int) => (0 ≤ k ∧ 0 ≤ t) ∧ (∀ j, 0 ≤ j → j < k → szP G (mm 57) j ≤ t) ∧ ∃ j, szP G (mm 57) j = t) (by
    intro k t hb hI0 KL0
    obtain ⟨⟨hk0, ht0⟩, hX, hY⟩ := hI0
    have L1 := zfor1 (10) (fun (i : Int) (s : Int) => Ev (d + 3) M_Shape_greatestPartOf 0 0 24 [(2, 56), zJ, (0, t), (0, k), (0, s), (0, i)] [] kd mm (zqI kd (fun x m1 => (∃ M, isLab G M ∧ isGr G M x) ∧ ∀ e, e ≠ 57 → m1 e = m e))) (fun (i : Int) (s : Int) => (0 ≤ i ∧ k < 10) ∧ s = zsum i.toNat (fun i => zb (mm 57 i = k))) (by
      intro i s hb hI1 KL1
      obtain ⟨⟨hi0, hkl⟩, hs1⟩ := hI1
      have hs := zsum_le (C := 1) (f := fun i => zb (mm 57 i = k)) (by decide) (fun _ => zb_01) i.toNat
      refine T_Shape_greatestPartOf_24 ?_
      try simp only [s0, s1, s2]
      refine ⟨hSm.1, hSm.2.2.1, ?_⟩
      refine ⟨fun c1 => ?_, fun c1 => ?_⟩
      · skip
        have e1 : s = szP G (mm 57) k := by rw [hs1, show i = 10 by omega]; exact hsp k hk0
        have m1 := zmax_l t s
        have m2 := zmax_r t s
        rw [iw_s (x := k + 1) (by omega) (by omega)]
        refine KL0 _ (by omega) ⟨⟨by omega, by omega⟩, fun j j0 j1 => ?_, ?_⟩
        · rcases (show j < k ∨ j = k by omega) with q | q
          · have := hX j j0 q; omega
          · rw [q, ← e1]; exact m2
        · rcases zmax_c t s with q | q
          · rw [q]; exact hY
          · rw [q]; exact ⟨k, e1.symm⟩
      · skip
        refine ⟨hSm.1, ⟨10, hSm.2.2.1, by omega, by omega⟩, ?_⟩
        refine ⟨fun c2 => ?_, fun c2 => ?_⟩
        · skip
          rw [iw_s (x := i + 1) (by omega) (by omega)]
          exact KL1 _ (by omega) ⟨⟨by omega, hkl⟩, by rw [zsum_1 hi0, hs1, zb_f (by assumption)]; omega⟩
        · skip
          rw [iw_s (x := i + 1) (by omega) (by omega)]
          rw [iw_s (x := s + 1) (by omega) (by omega)]
          exact KL1 _ (by omega) ⟨⟨by omega, hkl⟩, by rw [zsum_1 hi0, hs1, zb_t (by omega)]⟩)
    refine T_Shape_greatestPartOf_9 ?_
    try simp only [s0, s1, s2]
    refine ⟨hSm.1, hSm.2.2.1, ?_⟩
    refine ⟨fun c1 => ?_, fun c1 => ?_⟩
    · skip
      refine ⟨⟨mm 57, hL, fun j => ?_, hY⟩, hF⟩
      by_cases hj : 0 ≤ j ∧ j < 10
      · exact hX j hj.1 (by omega)
      · rw [hout j hj]; exact ht0
    · skip
      exact L1 0 0 (by omega) ⟨⟨by omega, by omega⟩, rfl⟩)
  exact L0 0 0 (by omega) ⟨⟨by omega, by omega⟩, fun j j0 j1 => by omega, ⟨-1, hout _ (by omega)⟩⟩
