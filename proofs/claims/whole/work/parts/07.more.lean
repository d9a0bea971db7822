/-! NEW CELLS, COPIES, A METHOD'S START AND END -/
def zpush {α : Type} (g : Nat → α) (n : Nat) (x : α) : Nat → α := fun a => if a = n then x else g a
theorem zpush_self {α : Type} {g : Nat → α} {n : Nat} {x : α} : zpush g n x n = x := by simp [zpush]
theorem zpush_ne {α : Type} {g : Nat → α} {n a : Nat} {x : α} (h : a ≠ n) : zpush g n x a = g a := by simp [zpush, h]
theorem zrow_ne {m : ZM} {a b j : Int} {f : Int → Int} (h : b ≠ a) : zrow m a f b j = m b j := by simp [zrow, h]
theorem zrow_self {m : ZM} {a j : Int} {f : Int → Int} : zrow m a f a j = f j := by simp [zrow]
theorem zrf_push {ad : Nat → Nat} {n q : Nat} {x : Int} (h : x < n) : zrf (zpush ad n q) x = zrf ad x := by
  unfold zrf
  split
  · rfl
  · rw [zpush_ne (by omega)]
theorem zokm_push {kd : ZK} {m : ZM} {q0 : Nat × Nat} {f : Int → Int} (hm : zokm kd m) (hf : ∀ j, zin32 (f j)) (h3 : q0.1 = 3 → ∀ i, f i < 0) (ho : ∀ c, q0.1 = c + 10 → ∀ k : Nat, ztag c k = 2 → f k < 0) (hk0 : q0.1 ≤ 3 ∨ 10 ≤ q0.1) : zokm (kd ++ [q0]) (zrow m kd.length f) := by
  refine ⟨fun a i => ?_, fun a q hq => ?_, fun q hq => ?_⟩
  · simp only [zrow]; split
    · exact hf _
    · exact hm.1 _ _
  · have hl : (kd ++ [q0]).length = kd.length + 1 := by simp
    by_cases ha : a < kd.length
    · rw [List.getElem?_append_left ha] at hq
      refine ⟨fun h i => ?_, fun c h k hk => ?_⟩
      · rw [zrow_ne (by omega), hl]
        have := (hm.2.1 a q hq).1 h i
        omega
      · rw [zrow_ne (by omega), hl]
        have := (hm.2.1 a q hq).2 c h k hk
        omega
    · have hl2 := (List.getElem?_eq_some_iff.mp hq).1
      have e : a = kd.length := by omega
      subst e
      have e2 : q = q0 := by simpa using hq.symm
      subst e2
      refine ⟨fun h i => ?_, fun c h k hk => ?_⟩
      · rw [zrow_self]
        have := h3 h i
        omega
      · rw [zrow_self]
        have := ho c h k hk
        omega
  · rcases List.mem_append.mp hq with h | h
    · exact hm.2.2 q h
    · rw [List.mem_singleton.mp h]; exact hk0
theorem ztag_or (c k : Nat) : ztag c k = 0 ∨ ztag c k = 2 := by
  unfold ztag
  have h : ∀ l ∈ zTags, ∀ x ∈ l, x = 0 ∨ x = 2 := by decide +kernel
  rw [List.getD_eq_getElem?_getD, List.getD_eq_getElem?_getD]
  cases h1 : zTags[c]? with
  | none => left; rfl
  | some l =>
    cases h2 : l[k]? with
    | none => left; simp [h2]
    | some x =>
      have := h l (List.mem_of_getElem? h1) x (List.mem_of_getElem? h2)
      simpa [h2] using this
theorem zcell_push {kd : ZK} {m : ZM} {ad : Nat → Nat} {ca : Nat → ClassId} {a qa : Nat} {cA : ClassId} {q : Nat × Nat} {f : Int → Int} (hm : zokm kd m) (hq : kd[a]? = some q) : zcell (zpush ad kd.length qa) (zpush ca kd.length cA) (zrow m kd.length f) a q = zcell ad ca m a q := by
  have hl := (List.getElem?_eq_some_iff.mp hq).1
  have hr : ∀ j : Int, zrow m kd.length f a j = m a j := fun j => zrow_ne (by omega)
  have hc : zpush ca kd.length cA a = ca a := zpush_ne (by omega)
  unfold zcell
  simp only [hr, hc]
  split
  · rfl
  · rename_i h1
    split
    · rename_i h2
      refine congrArg (fun f : Nat → Option Nat => (Sum.inl (ca a, q.2, Sum.inr (Sum.inr (Sum.inr (Sum.inr f)))) : va_E)) (funext fun j => ?_)
      exact zrf_push ((hm.2.1 a q hq).1 h2 j)
    · rename_i h2
      have hq0 : q.1 = (q.1 - 10) + 10 := by
        have := hm.2.2 q (List.mem_of_getElem? hq)
        omega
      congr 2
      apply List.map_congr_left
      intro k _
      unfold zfv
      split
      · rfl
      · rename_i ht
        by_cases h2t : ztag (q.1 - 10) k = 2
        · rw [zrf_push ((hm.2.1 a q hq).2 _ hq0 k h2t)]
        · exact absurd (ztag_or (q.1 - 10) k) (by omega)
theorem zw_push {kd : ZK} {m : ZM} {ad : Nat → Nat} {ca : Nat → ClassId} {qa : Nat} {cA : ClassId} {q0 : Nat × Nat} {f : Int → Int} {e : va_E} (hm : zokm kd m) (he : e = zcell (zpush ad kd.length qa) (zpush ca kd.length cA) (zrow m kd.length f) kd.length q0) :
    zw (kd ++ [q0]) (zpush ad kd.length qa) (zpush ca kd.length cA) (zrow m kd.length f) = zw kd ad ca m ++ [(qa, e)] := by
  apply List.ext_getElem?
  intro k
  by_cases hk : k < kd.length
  · have g : kd[k]? = some kd[k] := List.getElem?_eq_getElem hk
    rw [List.getElem?_append_left (by rw [zw_len]; exact hk), zw_at g, zw_at (q := kd[k]) (by rw [List.getElem?_append_left hk]; exact g), zcell_push hm g, zpush_ne (by omega)]
  · by_cases hk2 : k = kd.length
    · subst hk2
      rw [zw_at (q := q0) (by simp), List.getElem?_append_right (by rw [zw_len]; exact Nat.le_refl _), zw_len, Nat.sub_self, zpush_self, he]
      rfl
    · rw [List.getElem?_eq_none (by rw [zw_len, List.length_append]; simp; omega), List.getElem?_eq_none (by rw [List.length_append, zw_len]; simp; omega)]
theorem zpush_rel {kd : ZK} {m : ZM} {ad : Nat → Nat} {ca : Nat → ClassId} {tys tys' : List (ClassId × FieldType)} {D : va_G} {A : Nat → Prop} {s : State} {H H1 : Heap} {qa : Nat} {cA : ClassId} {q0 : Nat × Nat} {f : Int → Int} {e : va_E} (hZ : ZRel D A kd m ad ca tys s H) (hm : zokm kd m) (hK : va_K D zCl tys' s) (ht : ∀ (t0 : Nat) (x : ClassId × FieldType), tys[t0]? = some x → tys'[t0]? = some x)
    (hP : va_P D zCl (zw kd ad ca m ++ [(qa, e)]) H1) (hD : va_D A (zw kd ad ca m ++ [(qa, e)])) (he : e = zcell (zpush ad kd.length qa) (zpush ca kd.length cA) (zrow m kd.length f) kd.length q0) (hc : q0.1 ≤ 3 → ∃ t0 : Nat, tys'[t0]? = some (cA, zty q0.1)) :
    ZRel D A (kd ++ [q0]) (zrow m kd.length f) (zpush ad kd.length qa) (zpush ca kd.length cA) tys' s H1 := by
  have e1 := zw_push (ad := ad) (ca := ca) (qa := qa) (cA := cA) hm he
  refine ⟨hK, by rw [e1]; exact hP, by rw [e1]; exact hD, fun a q hq h3 => ?_⟩
  by_cases ha : a < kd.length
  · rw [List.getElem?_append_left ha] at hq
    rw [zpush_ne (by omega)]
    obtain ⟨t0, h0⟩ := hZ.2.2.2 a q hq h3
    exact ⟨t0, ht _ _ h0⟩
  · have hl2 := (List.getElem?_eq_some_iff.mp hq).1
    have e : a = kd.length := by simp at hl2; omega
    subst e
    have e2 : q = q0 := by simpa using hq.symm
    subst e2
    rw [zpush_self]
    exact hc h3
theorem zext_push {kd : ZK} {ad : Nat → Nat} {ca : Nat → ClassId} {qa : Nat} {cA : ClassId} {q0 : Nat × Nat} : zext kd ad ca (kd ++ [q0]) (zpush ad kd.length qa) (zpush ca kd.length cA) := ⟨⟨[q0], rfl⟩, fun a ha => ⟨zpush_ne (by omega), zpush_ne (by omega)⟩⟩
section EVM
variable {X : Option (Nat × (Nat → Int))} {d : Nat} {M : ZMeth} {mc ms pc : Nat} {ls st as : List ZV} {kd : ZK} {m : ZM} {Q : ZQ}
/-- behind any making of a cell -/
theorem EvX.push_of {pc2 : Nat} {q0 : Nat × Nat} {f : Int → Int} {N : Nat} (kk : EvX X d M mc ms pc2 ls ((2, (kd.length : Int)) :: st) (kd ++ [q0]) (zrow m kd.length f) Q) (hlen : kd.length < 1000000)
    (hf : ∀ j, zin32 (f j)) (h3 : q0.1 = 3 → ∀ i, f i < 0) (ho : ∀ c, q0.1 = c + 10 → ∀ k : Nat, ztag c k = 2 → f k < 0) (hk0 : q0.1 ≤ 3 ∨ 10 ≤ q0.1)
    (hm : zokm kd m) (hl : ∀ v ∈ ls, zok kd v) (hs : ∀ v ∈ st, zok kd v) {E : ZE} {p : Program} {l : Launch} {e : Env} {R : Room} {s : State} {mi : MethodId} {args : Array Value} {below : List Frame} {meth : Method} {c : Code} {H H1 : Heap} {locs : List Loc} {cells slots : Nat} {D : va_G} {A : Nat → Prop} {ad : Nat → Nat} {ca : Nat → ClassId} {tys tys' : List (ClassId × FieldType)} {lsr : Array Slot} {Qs : State → Prop} {qa : Nat} {cA : ClassId} {el : va_E}
    (hF : ZFix M p s mi args meth c) (hR : d ≤ R.frames ∧ 60 * d ≤ R.locals ∧ cells + (mc + 1) ≤ R.cells ∧ slots + (ms + N) ≤ R.slots) (hX : zscr X E) (hZ : ZRel D A kd m ad ca tys s H) (hS : va_S A s.heap H1 locs) (hA : ∀ q, s.heap.size ≤ q → A q) (hE : ZSf E A s s.heap) (hL : zloc E ad lsr M.2.2.1 ls)
    (hQ : ∀ (r : ZV) (kd' : ZK) (m' : ZM) (H' : Heap) (locs' : List Loc) (cells' slots' : Nat) (ad' : Nat → Nat) (ca' : Nat → ClassId) (tys' : List (ClassId × FieldType)) (lsr' : Array Slot) (pc' : Nat), Q r kd' m' → zokm kd' m' → zok kd' r → zext kd ad ca kd' ad' ca' → ZRel D A kd' m' ad' ca' tys' s H' → va_S A s.heap H' locs' → cells' ≤ R.cells → slots' ≤ R.slots → zretok M r → decode M.2.1 pc' = .ok (zretI M, 1) → W p l e R s mi args below meth c H' locs' cells' slots' Qs (F0 mi pc' lsr' (zrst E ad' r)))
    (hK : va_K D zCl tys' s) (ht : ∀ (t0 : Nat) (x : ClassId × FieldType), tys[t0]? = some x → tys'[t0]? = some x)
    (hP : va_P D zCl (zw kd ad ca m ++ [(qa, el)]) H1) (hD : va_D A (zw kd ad ca m ++ [(qa, el)])) (he : el = zcell (zpush ad kd.length qa) (zpush ca kd.length cA) (zrow m kd.length f) kd.length q0) (hc : q0.1 ≤ 3 → ∃ t0 : Nat, tys'[t0]? = some (cA, zty q0.1)) :
    W p l e R s mi args below meth c H1 locs (cells + 1) (slots + N) Qs (F0 mi pc2 lsr (.ref qa :: zst E ad st)) := by
  have hx := zext_push (kd := kd) (ad := ad) (ca := ca) (qa := qa) (cA := cA) (q0 := q0)
  have hle := hx.le
  have K := kk (zokm_push hm hf h3 ho hk0) (fun v hv => zok_mono hle (hl v hv)) (zoks_cons (zok_r ⟨⟨by omega, by omega⟩, by rw [List.length_append]; show (kd.length : Int) < ((kd.length + 1 : Nat) : Int); omega⟩) (fun v hv => zok_mono hle (hs v hv))) E p l e R s mi args below meth c H1 locs (cells + 1) (slots + N) D A (zpush ad kd.length qa) (zpush ca kd.length cA) tys' lsr Qs hF ⟨hR.1, hR.2.1, by omega, by omega⟩ hX
    (zpush_rel hZ hm hK ht hP hD he hc) hS hA hE (zloc_ext hx hl hL)
    (fun r1 kd1 m1 H1 locs1 cells1 slots1 ad1 ca1 tys1 lsr1 pc1 a1 a2 a3 a4 a5 a6 a7 a8 a9 a10 => hQ r1 kd1 m1 H1 locs1 cells1 slots1 ad1 ca1 tys1 lsr1 pc1 a1 a2 a3 (hx.trans a4) a5 a6 a7 a8 a9 a10)
  have e2 : zst E (zpush ad kd.length qa) ((2, (kd.length : Int)) :: st) = .ref qa :: zst E ad st := by
    show zc E _ (2, _) :: zst E _ st = _
    rw [zst_ext hx hs, zc_ref0 (by omega), Int.toNat_natCast, zpush_self]
  rw [e2] at K
  exact K
theorem EvX.newa {atype : ArrayType} {t N : Nat} (hd : decode M.2.1 pc = .ok (.newarray atype, 2)) (harr : Cond.arrayClass (newarray.typeOf atype) ∈ zWs) (hty : newarray.typeOf atype = zty t) (ht : t < 3) (hN : N < 1000000) (hlen : kd.length < 1000000)
    (kk : EvX X d M mc ms (pc + 2) ls ((2, (kd.length : Int)) :: st) (kd ++ [(t, N)]) (zrow m kd.length (fun _ => 0)) Q) : EvX X d M (mc + 1) (ms + N) pc ls ((0, (N : Int)) :: st) kd m Q := by
  intro hm hl hs E p l e R s mi args below meth c0 H locs cells slots D A ad ca tys lsr Qs hF hR hX hZ hS hA hE hL hQ
  have hnn : zin32 (N : Int) := ⟨by omega, by omega⟩
  have hcl := zclamp (i := (N : Int)) (by omega) hnn
  show W p l e R s mi args below meth c0 H locs cells slots Qs (F0 mi pc lsr (.int (Int32.ofInt (N : Int)) :: zst E ad st))
  refine va_newa (atype := atype) (ty := zty t) (N' := N) (a0 := (N, .inl (fun _ => 0))) hF.1 hF.2.1 (hF.2.2.2.2.1 _ harr) hty hZ.1 hZ.2.1 hZ.2.2.1 hS hA (fun cA => ?_) (fun z => ?_) (by omega) ?_ (by omega) (by omega) hd (fun q cA H1 hK1 hP1 hD1 hS1 => ?_)
  · rcases (show t = 0 ∨ t = 1 ∨ t = 2 by omega) with rfl | rfl | rfl <;> rfl
  · have := (zi_lt hnn zin_0).mp z
    omega
  · rcases (show t = 0 ∨ t = 1 ∨ t = 2 by omega) with rfl | rfl | rfl
    · show N * 4 ≤ 536870912; omega
    · show N * 1 ≤ 536870912; omega
    · show N * 1 ≤ 536870912; omega
  · refine EvX.push_of (q0 := (t, N)) (f := fun _ => 0) (cA := cA) kk hlen (fun _ => zin_0) (fun h => by dsimp only at h; omega) (fun c h => by dsimp only at h; omega) (Or.inl (by dsimp only; omega)) hm hl (zoks_tail hs) hF hR hX hZ hS1 hA hE hL hQ hK1 (fun t0 x hx => ?_) hP1 hD1 ?_ (fun _ => ⟨tys.length, ?_⟩)
    · rw [List.getElem?_append_left (List.getElem?_eq_some_iff.mp hx).1]; exact hx
    · rw [zcell_arr ht, zpush_self]
      refine congrArg (fun f : Nat → Int32 => (Sum.inl (cA, N, Sum.inl f) : va_E)) (funext fun j => ?_)
      rw [zrow_self]; rfl
    · simp
def ZNew (M : ZMeth) (idx c : Nat) : Prop := ∃ (C : String) (T : u_T) (N : Nat) (ty : Nat → FieldType), zCl[c]? = some (C, T, N) ∧ (∀ w ∈ u_ws C T N, w ∈ zWs) ∧ N = (zTags.getD c []).length ∧ (∀ k, k < N → parseFieldDescriptor (T k).2.2.1 = some (ty k)) ∧ Cond.classLink M.1.cls idx C ∈ zWs ∧ Cond.instantiable C N ∈ zWs ∧ Cond.initialized C ∈ zWs ∧ ∀ k, k < N → (ztag c k = 0 ∧ ty k = .int) ∨ (ztag c k = 2 ∧ ((∃ t, ty k = .array t) ∨ ∃ t, ty k = .object t))
/-- what a new object's fields hold -/
def zdef (c : Nat) : Int → Int := fun k => if ztag c k.toNat = 2 then -1 else 0
theorem EvX.new {idx c : Nat} (hd : decode M.2.1 pc = .ok (.new idx, 3)) (hn : ZNew M idx c) (hlen : kd.length < 1000000)
    (kk : EvX X d M mc ms (pc + 3) ls ((2, (kd.length : Int)) :: st) (kd ++ [(c + 10, (zTags.getD c []).length)]) (zrow m kd.length (zdef c)) Q) : EvX X d M (mc + 1) (ms + (zTags.getD c []).length) pc ls st kd m Q := by
  intro hm hl hs E p l e R s mi args below meth c0 H locs cells slots D A ad ca tys lsr Qs hF hR hX hZ hS hA hE hL hQ
  obtain ⟨C, T, N, ty, hc, hin, hN, hty, h1, h2, h3, htg⟩ := hn
  subst hN
  refine va_new (fs := (List.range (zTags.getD c []).length).map (fun k => zfv ad (ztag c k) (zdef c k))) hF.1 hF.2.1 hF.2.2.2.2.1 hin ty hty hF.2.2.2.1 (hF.2.2.2.2.1 _ h1) (hF.2.2.2.2.1 _ h2) (hF.2.2.2.2.1 _ h3) hZ.1 hZ.2.1 hZ.2.2.1 hS hA hc (fun j hj => ?_) (by omega) (by omega) hd (fun q H1 hP1 hD1 hS1 => ?_)
  · have e : ((List.range (zTags.getD c []).length).map (fun k => zfv ad (ztag c k) (zdef c k)))[j]? = some (zfv ad (ztag c j) (zdef c j)) := by
      rw [List.getElem?_map, List.getElem?_range hj]; rfl
    show _ = List.getD _ _ _
    rw [List.getD_eq_getElem?_getD, e]
    rcases htg j hj with ⟨g1, g2⟩ | ⟨g1, ⟨t, g2⟩ | ⟨t, g2⟩⟩ <;> rw [g2] <;> simp [zfv, zdef, g1, zrf, va_rf, defaultValue]
  · have e1 : (fun k : Nat => zfv ad (ztag c k) (zdef c k)) = (fun k : Nat => zfv (zpush ad kd.length q) (ztag c k) (zrow m kd.length (zdef c) kd.length k)) := by
      funext k
      rw [zrow_self]
      unfold zfv
      split
      · rfl
      · rename_i ht
        have h2 : ztag c k = 2 := (ztag_or c k).resolve_left ht
        have h3 : zdef c (k : Int) = -1 := by simp [zdef, h2]
        rw [zrf_push (by omega)]
    refine EvX.push_of (q0 := (c + 10, (zTags.getD c []).length)) (f := zdef c) (cA := ca 0) kk hlen (fun j => ?_) (fun h => by dsimp only at h; omega) (fun c1 h k hk => ?_) (Or.inr (by dsimp only; omega)) hm hl hs hF hR hX hZ hS1 hA hE hL hQ hZ.1 (fun _ _ hx => hx) hP1 hD1 ?_ (fun h => by dsimp only at h; omega)
    · unfold zdef; split <;> exact ⟨by decide, by decide⟩
    · dsimp only at h
      have e : c1 = c := by omega
      subst e
      simp [zdef, hk]
    · rw [zcell_obj, e1]
theorem EvX.newq {idx N : Nat} (hd : decode M.2.1 pc = .ok (.anewarray idx, 3)) (h1 : Cond.classLink M.1.cls idx "ApartGames$Game" ∈ zWs) (hN : N < 1000000) (hlen : kd.length < 1000000)
    (kk : EvX X d M mc ms (pc + 3) ls ((2, (kd.length : Int)) :: st) (kd ++ [(3, N)]) (zrow m kd.length (fun _ => -1)) Q) : EvX X d M (mc + 1) (ms + N) pc ls ((0, (N : Int)) :: st) kd m Q := by
  intro hm hl hs E p l e R s mi args below meth c0 H locs cells slots D A ad ca tys lsr Qs hF hR hX hZ hS hA hE hL hQ
  have hnn : zin32 (N : Int) := ⟨by omega, by omega⟩
  have hcl := zclamp (i := (N : Int)) (by omega) hnn
  show W p l e R s mi args below meth c0 H locs cells slots Qs (F0 mi pc lsr (.int (Int32.ofInt (N : Int)) :: zst E ad st))
  refine va_newq (N' := N) hF.1 hF.2.1 hF.2.2.2.1 (hF.2.2.2.2.1 _ h1) hE.2.2.2.2.2.2.2.2.2 hZ.1 hZ.2.1 hZ.2.2.1 hS hA (fun z => ?_) (by omega) (by omega) (by omega) (by omega) hd (fun q cA H1 hK1 hP1 hD1 hS1 => ?_)
  · have := (zi_lt hnn zin_0).mp z
    omega
  · refine EvX.push_of (q0 := (3, N)) (f := fun _ => -1) (cA := cA) kk hlen (fun _ => ⟨by decide, by decide⟩) (fun _ _ => by decide) (fun c h => by dsimp only at h; omega) (Or.inl (by dsimp only; omega)) hm hl (zoks_tail hs) hF hR hX hZ hS1 hA hE hL hQ hK1 (fun t0 x hx => ?_) hP1 hD1 ?_ (fun _ => ⟨tys.length, ?_⟩)
    · rw [List.getElem?_append_left (List.getElem?_eq_some_iff.mp hx).1]; exact hx
    · rw [zcell_refs, zpush_self]
      refine congrArg (fun f : Nat → Option Nat => (Sum.inl (cA, N, Sum.inr (Sum.inr (Sum.inr (Sum.inr f)))) : va_E)) (funext fun j => ?_)
      rw [zrow_self]; rfl
    · simp [zty]
/-- System.arraycopy of ints -/
def zcpy (m : ZM) (b sp a dp n : Int) : ZM := fun x j => if x = a ∧ dp ≤ j ∧ j < dp + n then m b (sp + (j - dp)) else m x j
theorem EvX.acopy {idx nb na : Nat} {b sp a dp n : Int} (hd : decode M.2.1 pc = .ok (.invokestatic idx, 3)) (h1 : Cond.methodLink M.1.cls idx arraycopyName ∈ zWs) (h2 : Cond.native arraycopyName ∈ zWs) (h3 : Cond.static arraycopyName ∈ zWs) (h4 : Cond.initialized "java/lang/System" ∈ zWs) (hb : zarr kd b 0 nb) (ha : zarr kd a 0 na) (g1 : 0 ≤ sp) (g2 : 0 ≤ dp) (g3 : 0 ≤ n) (g4 : sp + n ≤ nb) (g5 : dp + n ≤ na) (hlen : (st.map zcat).sum ≤ 8)
    (kk : EvX X (d + 1) M mc ms (pc + 3) ls st kd (zcpy m b sp a dp n) Q) : EvX X (d + 1) M mc ms pc ls ((0, n) :: (0, dp) :: (2, a) :: (0, sp) :: (2, b) :: st) kd m Q := by
  intro hm hl hs E p l e R s mi args below meth c0 H locs cells slots D A ad ca tys lsr Qs hF hR hX hZ hS hA hE hL hQ
  have n1 := zi0 hs
  have n2 := zi0 (zoks_tail hs)
  have n3 := zi0 (zoks_tail (zoks_tail (zoks_tail hs)))
  obtain ⟨hb0, hbk⟩ := hb
  obtain ⟨ha0, hak⟩ := ha
  obtain ⟨b, rfl⟩ : ∃ n : Nat, b = (n : Int) := ⟨b.toNat, by omega⟩
  obtain ⟨a, rfl⟩ : ∃ n : Nat, a = (n : Int) := ⟨a.toNat, by omega⟩
  rw [Int.toNat_natCast] at hbk hak
  have c1 := zclamp g3 n1
  have c2 := zclamp g2 n2
  have c3 := zclamp g1 n3
  have heb := zw_at (ad := ad) (ca := ca) (m := m) hbk
  have hea := zw_at (ad := ad) (ca := ca) (m := m) hak
  rw [zcell_arr (by decide)] at heb hea
  obtain ⟨t0, ht0⟩ := hZ.2.2.2 b _ hbk (Nat.le_of_ble_eq_true rfl)
  obtain ⟨t1, ht1⟩ := hZ.2.2.2 a _ hak (Nat.le_of_ble_eq_true rfl)
  have hm' : zokm kd (zcpy m b sp a dp n) := by
    refine ⟨fun x j => ?_, fun x q hq => ⟨fun h i => ?_, fun c h k hk => ?_⟩, hm.2.2⟩
    · simp only [zcpy]; split <;> exact hm.1 _ _
    · have hne : ¬ ((x : Int) = (a : Int)) := by
        intro e
        have e1 : x = a := by omega
        subst e1
        rw [hak] at hq; cases hq; dsimp only at h; omega
      simp only [zcpy, hne, false_and, if_false]
      exact (hm.2.1 x q hq).1 h i
    · have hne : ¬ ((x : Int) = (a : Int)) := by
        intro e
        have e1 : x = a := by omega
        subst e1
        rw [hak] at hq; cases hq; dsimp only at h; omega
      simp only [zcpy, hne, false_and, if_false]
      exact (hm.2.1 x q hq).2 c h k hk
  have := zroom (E := E) (ad := ad) (st := st)
  show W p l e R s mi args below meth c0 H locs cells slots Qs (F0 mi pc lsr (.int (Int32.ofInt n) :: .int (Int32.ofInt dp) :: zc E ad (2, (a : Int)) :: .int (Int32.ofInt sp) :: zc E ad (2, (b : Int)) :: zst E ad st))
  rw [zc_ref0 ha0, zc_ref0 hb0, Int.toNat_natCast, Int.toNat_natCast]
  refine va_copyi (rest := zst E ad st) hF.1 hF.2.1 (by rw [hF.2.2.1, hL.1]) hF.2.2.2.1 (hF.2.2.2.2.1 _ h1) (hF.2.2.2.2.1 _ h2) (hF.2.2.2.2.1 _ h3) (hF.2.2.2.2.1 _ h4) hZ.1 hZ.2.1 hZ.2.2.1 hS b a t0 t1 heb hea ht0 ht1 rfl (fun z => ?_) (fun z => ?_) (fun z => ?_) (by omega) (by omega) (fun i _ => rfl) (by omega) ?_ hd (fun H1 locs1 hP1 hD1 hS1 => ?_)
  · have := (zi_lt n3 zin_0).mp z; omega
  · have := (zi_lt n2 zin_0).mp z; omega
  · have := (zi_lt n1 zin_0).mp z; omega
  · have e : nativeFrameWords "java/lang/System" "arraycopy" 5 ≤ 30 := by decide +kernel
    omega
  · rw [zw_set hak (m' := zcpy m b sp a dp n) (by
      rw [zcell_arr (by decide)]
      refine congrArg (fun f : Nat → Int32 => (Sum.inl (ca a, na, Sum.inl f) : va_E)) (funext fun j => ?_)
      simp only [va_cpy, zcpy]
      by_cases hj : (Int32.ofInt dp).toNatClampNeg ≤ j ∧ j < (Int32.ofInt dp).toNatClampNeg + (Int32.ofInt n).toNatClampNeg
      · rw [if_pos hj, if_pos ⟨trivial, by omega, by omega⟩]
        congr 2
        omega
      · rw [if_neg hj, if_neg (by omega)]) (fun x j hx => by
        have hne : ¬ ((x : Int) = (a : Int)) := by omega
        simp only [zcpy, hne, false_and, if_false])] at hP1 hD1
    exact kk hm' hl (zoks_tail (zoks_tail (zoks_tail (zoks_tail (zoks_tail hs))))) E p l e R s mi args below meth c0 H1 locs1 cells slots D A ad ca tys lsr Qs hF hR hX ⟨hZ.1, hP1, hD1, hZ.2.2.2⟩ hS1 hA hE hL hQ
end EVM
