/-! THE HEAP OF THE ABSTRACT MACHINE -/
def zobj (kd : ZK) (a : Int) (c : Nat) : Prop := 0 ≤ a ∧ kd[a.toNat]? = some (c + 10, (zTags.getD c []).length)
def zarr (kd : ZK) (a : Int) (t n : Nat) : Prop := 0 ≤ a ∧ kd[a.toNat]? = some (t, n)
def zIn (kd : ZK) (a : Int) (t : Nat) (i : Int) : Prop := ∃ n : Nat, zarr kd a t n ∧ 0 ≤ i ∧ i < n
def zrow (m : ZM) (a : Int) (f : Int → Int) : ZM := fun b j => if b = a then f j else m b j
theorem zup_ne {m : ZM} {a i v b j : Int} (h : b ≠ a) : zup m a i v b j = m b j := by simp [zup, h]
theorem zup_self {m : ZM} {a i v : Int} : zup m a i v a i = v := by simp [zup]
theorem zup_nj {m : ZM} {a i v b j : Int} (h : j ≠ i) : zup m a i v b j = m b j := by simp [zup, h]
theorem zw_at {kd : ZK} {ad : Nat → Nat} {ca : Nat → ClassId} {m : ZM} {a : Nat} {q : Nat × Nat} (h : kd[a]? = some q) : (zw kd ad ca m)[a]? = some (ad a, zcell ad ca m a q) := by
  have hl : a < kd.length := (List.getElem?_eq_some_iff.mp h).1
  have e : kd.getD a (0, 0) = q := by rw [List.getD_eq_getElem?_getD, h]; rfl
  rw [zw, List.getElem?_map, List.getElem?_range hl]
  simp only [Option.map_some, e]
theorem zw_len {kd : ZK} {ad : Nat → Nat} {ca : Nat → ClassId} {m : ZM} : (zw kd ad ca m).length = kd.length := by simp [zw]
theorem zcell_congr {ad : Nat → Nat} {ca : Nat → ClassId} {m m' : ZM} {a : Nat} {q : Nat × Nat} (h : ∀ j : Int, m' a j = m a j) : zcell ad ca m' a q = zcell ad ca m a q := by
  simp only [zcell, h]
theorem zw_set {kd : ZK} {ad : Nat → Nat} {ca : Nat → ClassId} {m m' : ZM} {a : Nat} {q : Nat × Nat} {e : va_E} (h : kd[a]? = some q) (he : e = zcell ad ca m' a q) (hm : ∀ (b : Nat) (j : Int), b ≠ a → m' b j = m b j) : (zw kd ad ca m).set a (ad a, e) = zw kd ad ca m' := by
  subst he
  apply List.ext_getElem?
  intro k
  have hl : a < kd.length := (List.getElem?_eq_some_iff.mp h).1
  by_cases hk : k = a
  · subst hk
    rw [List.getElem?_set_self (by rw [zw_len]; exact hl), zw_at h]
  · rw [List.getElem?_set_ne (Ne.symm hk)]
    by_cases hl2 : k < kd.length
    · have g : kd[k]? = some kd[k] := List.getElem?_eq_getElem hl2
      rw [zw_at g, zw_at g, zcell_congr (fun j => hm k j hk)]
    · rw [List.getElem?_eq_none (by rw [zw_len]; omega), List.getElem?_eq_none (by rw [zw_len]; omega)]
theorem zcell_arr {ad : Nat → Nat} {ca : Nat → ClassId} {m : ZM} {a t n : Nat} (ht : t < 3) : zcell ad ca m a (t, n) = .inl (ca a, n, .inl (fun j => Int32.ofInt (m a j))) := by
  simp [zcell, ht]
theorem zcell_refs {ad : Nat → Nat} {ca : Nat → ClassId} {m : ZM} {a n : Nat} : zcell ad ca m a (3, n) = .inl (ca a, n, .inr (.inr (.inr (.inr (fun j => zrf ad (m a j)))))) := by
  simp [zcell]
theorem zcell_obj {ad : Nat → Nat} {ca : Nat → ClassId} {m : ZM} {a c n : Nat} : zcell ad ca m a (c + 10, n) = .inr (c, (List.range n).map (fun k => zfv ad (ztag c k) (m a k))) := by
  have h1 : ¬ c + 10 < 3 := by omega
  have h2 : ¬ c + 10 = 3 := by omega
  simp only [zcell, h1, h2, if_false, Nat.add_sub_cancel]
theorem zclamp {i : Int} (h0 : 0 ≤ i) (h : zin32 i) : ((Int32.ofInt i).toNatClampNeg : Int) = i := by
  show (((Int32.ofInt i).toInt.toNat : Nat) : Int) = i
  rw [zi_toInt h]
  omega
theorem zvin {i : Int} {n : Nat} (h0 : 0 ≤ i) (h : zin32 i) (hn : i < n) : vp_in (Int32.ofInt i) n := by
  have e := zclamp h0 h
  intro q
  rcases q with q | q
  · have := (zi_lt h zin_0).mp q
    omega
  · omega
theorem zin32_tag {kd : ZK} {v : ZV} (h : zok kd v) (ht : v.1 = 0 ∨ v.1 = 2) : zin32 v.2 := by
  rcases ht with q | q
  · exact h.1 q
  · exact (h.2.2 q).1
section EVH
variable {X : Option (Nat × (Nat → Int))} {d : Nat} {M : ZMeth} {mc ms pc : Nat} {ls st : List ZV} {kd : ZK} {m : ZM} {Q : ZQ}
theorem EvX.getf {idx c k : Nat} {a : Int} (hd : decode M.2.1 pc = .ok (.getfield idx, 3)) (hg : ZGet M.1.cls idx c k) (ho : zobj kd a c) (kk : EvX X d M mc ms (pc + 3) ls ((ztag c k, m a k) :: st) kd m Q) : EvX X d M mc ms pc ls ((2, a) :: st) kd m Q := by
  intro hm hl hs E p l e R s mi args below meth c0 H locs cells slots D A ad ca tys lsr Qs hF hR hX hZ hS hA hE hL hQ
  obtain ⟨C, T, N, ty, hc, hin, hk, hN, hnm, hty, hlk, htg⟩ := hg
  obtain ⟨h0, hkd⟩ := ho
  obtain ⟨n, rfl⟩ : ∃ n : Nat, a = (n : Int) := ⟨a.toNat, by omega⟩
  rw [Int.toNat_natCast] at hkd
  have hv : zok kd (ztag c k, m n k) := by
    refine ⟨fun _ => hm.1 _ _, fun q => ?_, fun q => ⟨hm.1 _ _, (hm.2.1 n _ hkd).2 c rfl k q⟩⟩
    rcases htg with h | h <;> (dsimp only at q; omega)
  have K := kk hm hl (zoks_cons hv (zoks_tail hs)) E p l e R s mi args below meth c0 H locs cells slots D A ad ca tys lsr Qs hF hR hX hZ hS hA hE hL hQ
  have he := zw_at (ad := ad) (ca := ca) (m := m) hkd
  rw [zcell_obj] at he
  have hz : zc E ad (ztag c k, m n k) = zfv ad (ztag c k) (m n k) := by
    rcases htg with ⟨h, -⟩ | ⟨h, -⟩ <;> rw [h] <;> simp [zc, zfv]
  have K : W p l e R s mi args below meth c0 H locs cells slots Qs (F0 mi (pc + 3) lsr (zfv ad (ztag c k) (m n k) :: zst E ad st)) := by rw [← hz]; exact K
  show W p l e R s mi args below meth c0 H locs cells slots Qs (F0 mi pc lsr (zc E ad (2, (n : Int)) :: zst E ad st))
  rw [zc_ref0 h0, Int.toNat_natCast]
  have hf : ((List.range (zTags.getD c []).length).map (fun k => zfv ad (ztag c k) (m n k)))[k]? = some (zfv ad (ztag c k) (m n k)) := by
    rw [List.getElem?_map, List.getElem?_range (by omega)]
    rfl
  rcases hlk with hlk | ⟨host, hlk⟩
  · exact va_get hF.1 hF.2.1 hF.2.2.2.2.1 hin hF.2.2.2.1 hZ.1 hZ.2.1 n he hc k hk (hF.2.2.2.2.1 _ hlk) (fun _ h => h) hf hd K
  · exact va_getN hF.1 hF.2.1 hF.2.2.2.2.1 hin hF.2.2.2.1 hZ.1 hZ.2.1 n he hc k hk (va_Nw.use rfl (hE.2.1 _ hlk)) (fun _ h => h) hf hd K
theorem zokm_up {a : Nat} {k : Int} {v : ZV} (hm : zokm kd m) (hv : zin32 v.2) (h3 : ∀ q, kd[a]? = some q → (q.1 = 3 → v.2 < kd.length) ∧ (∀ c, q.1 = c + 10 → ∀ j : Nat, k = j → ztag c j = 2 → v.2 < kd.length)) : zokm kd (zup m a k v.2) := by
  refine ⟨fun b j => ?_, fun b q hq => ⟨fun h i => ?_, fun c h j hj => ?_⟩, hm.2.2⟩
  · simp only [zup]; split
    · exact hv
    · exact hm.1 _ _
  · simp only [zup]; split
    · rename_i e
      have e1 : b = a := by omega
      subst e1
      exact (h3 q hq).1 h
    · exact (hm.2.1 b q hq).1 h i
  · simp only [zup]; split
    · rename_i e
      have e1 : b = a := by omega
      subst e1
      exact (h3 q hq).2 c h j e.2.symm hj
    · exact (hm.2.1 b q hq).2 c h j hj
theorem EvX.putf {idx c k : Nat} {a : Int} {v : ZV} (hd : decode M.2.1 pc = .ok (.putfield idx, 3)) (hg : ZGet M.1.cls idx c k) (hp : ZPut M idx c k) (hv : v.1 = ztag c k) (ho : zobj kd a c) (kk : EvX X d M mc ms (pc + 3) ls st kd (zup m a k v.2) Q) : EvX X d M mc ms pc ls (v :: (2, a) :: st) kd m Q := by
  intro hm hl hs E p l e R s mi args below meth c0 H locs cells slots D A ad ca tys lsr Qs hF hR hX hZ hS hA hE hL hQ
  obtain ⟨C, T, N, ty, hc, hin, hk, hN, hnm, hty, hlk, htg⟩ := hg
  obtain ⟨C', T', N', hc', hfin⟩ := hp
  cases hc.symm.trans hc'
  obtain ⟨h0, hkd⟩ := ho
  obtain ⟨n, rfl⟩ : ∃ n : Nat, a = (n : Int) := ⟨a.toNat, by omega⟩
  rw [Int.toNat_natCast] at hkd
  obtain ⟨t, x⟩ := v
  dsimp only at hv
  subst hv
  have hvk := zoks_head hs
  have hx : zin32 x := zin32_tag hvk (by dsimp only; rcases htg with ⟨h, -⟩ | ⟨h, -⟩ <;> omega)
  have hm' : zokm kd (zup m n k x) := by
    refine zokm_up (v := (ztag c k, x)) hm hx (fun q hq => ⟨fun h3 => ?_, fun c1 h3 j hj ht => ?_⟩)
    · rw [hkd] at hq
      cases hq
      dsimp only at h3
      omega
    · rw [hkd] at hq
      cases hq
      dsimp only at h3
      have e1 : c1 = c := by omega
      have e2 : j = k := by omega
      subst e1; subst e2
      exact (hvk.2.2 ht).2
  have he := zw_at (ad := ad) (ca := ca) (m := m) hkd
  rw [zcell_obj] at he
  have hz : zc E ad (ztag c k, x) = zfv ad (ztag c k) x := by
    rcases htg with ⟨h, -⟩ | ⟨h, -⟩ <;> rw [h] <;> simp [zc, zfv]
  have hset : (zw kd ad ca m).set n (ad n, .inr (c, ((List.range (zTags.getD c []).length).map (fun k => zfv ad (ztag c k) (m n k))).set k (zfv ad (ztag c k) x))) = zw kd ad ca (zup m n k x) := by
    refine zw_set hkd ?_ (fun b j hb => zup_ne (by omega))
    rw [zcell_obj]
    congr 2
    apply List.ext_getElem?
    intro j
    by_cases hj : j = k
    · subst hj
      rw [List.getElem?_set_self (by rw [List.length_map, List.length_range]; omega), List.getElem?_map, List.getElem?_range (by omega)]
      simp [zup]
    · rw [List.getElem?_set_ne (Ne.symm hj), List.getElem?_map, List.getElem?_map]
      by_cases hl3 : j < (zTags.getD c []).length
      · rw [List.getElem?_range hl3]
        have e : ¬ ((j : Int) = (k : Int)) := by omega
        simp [zup, e]
      · rw [List.getElem?_eq_none (by rw [List.length_range]; omega)]
        rfl
  have nar : narrow (ty k) (zfv ad (ztag c k) x) = zfv ad (ztag c k) x ∧ fits (ty k) (zfv ad (ztag c k) x) = true := by
    rcases htg with ⟨h, h2⟩ | ⟨h, ⟨t, h2⟩ | ⟨t, h2⟩⟩ <;> rw [h, h2]
    · exact ⟨rfl, rfl⟩
    · simp only [zfv]; cases zrf ad x <;> exact ⟨rfl, rfl⟩
    · simp only [zfv]; cases zrf ad x <;> exact ⟨rfl, rfl⟩
  have K : ∀ (H1 : Heap) (locs1 : List Loc), va_P D zCl (zw kd ad ca (zup m n k x)) H1 → va_D A (zw kd ad ca (zup m n k x)) → va_S A s.heap H1 locs1 → W p l e R s mi args below meth c0 H1 locs1 cells slots Qs (F0 mi (pc + 3) lsr (zst E ad st)) := fun H1 locs1 hP1 hD1 hS1 =>
    kk hm' hl (zoks_tail (zoks_tail hs)) E p l e R s mi args below meth c0 H1 locs1 cells slots D A ad ca tys lsr Qs hF hR hX ⟨hZ.1, hP1, hD1, hZ.2.2.2⟩ hS1 hA hE hL hQ
  show W p l e R s mi args below meth c0 H locs cells slots Qs (F0 mi pc lsr (zc E ad (ztag c k, x) :: zc E ad (2, (n : Int)) :: zst E ad st))
  rw [zc_ref0 h0, Int.toNat_natCast, hz]
  have hlen : k < ((List.range (zTags.getD c []).length).map (fun k => zfv ad (ztag c k) (m n k))).length := by rw [List.length_map, List.length_range]; omega
  rcases hfin with hfin | ⟨hfin, hini, hdecl, hlkF⟩
  · rcases hlk with hlk | ⟨host, hlk⟩
    · refine va_put hF.1 hF.2.1 hF.2.2.2.2.1 hin ty hty hnm hF.2.2.2.1 hZ.1 hZ.2.1 hZ.2.2.1 hS n he hc k hk (hF.2.2.2.2.1 _ hlk) (fun _ h => h) hfin (hty k hk) nar.1 nar.2 hlen hd (fun H1 locs1 hP1 hD1 hS1 => ?_)
      rw [hset] at hP1 hD1
      exact K H1 locs1 hP1 hD1 hS1
    · refine va_putN hF.1 hF.2.1 hF.2.2.2.2.1 hin ty hty hnm hF.2.2.2.1 hZ.1 hZ.2.1 hZ.2.2.1 hS n he hc k hk (va_Nw.use rfl (hE.2.1 _ hlk)) (fun _ h => h) hfin (hty k hk) nar.1 nar.2 hlen hd (fun H1 locs1 hP1 hD1 hS1 => ?_)
      rw [hset] at hP1 hD1
      exact K H1 locs1 hP1 hD1 hS1
  · refine va_putF hF.1 hF.2.1 hF.2.2.2.2.1 hin ty hty hnm hF.2.2.2.1 hZ.1 hZ.2.1 hZ.2.2.1 hS n he hc k hk (hF.2.2.2.2.1 _ hlkF) (fun _ h => h) hfin (hF.2.2.2.2.2.trans hini) hdecl (hty k hk) nar.1 nar.2 hlen hd (fun H1 locs1 hP1 hD1 hS1 => ?_)
    rw [hset] at hP1 hD1
    exact K H1 locs1 hP1 hD1 hS1
/-! arrays -/
theorem EvX.iaload {a i : Int} (hd : decode M.2.1 pc = .ok (.iaload, 1)) (hin : zIn kd a 0 i) (kk : EvX X d M mc ms (pc + 1) ls ((0, m a i) :: st) kd m Q) : EvX X d M mc ms pc ls ((0, i) :: (2, a) :: st) kd m Q := by
  intro hm hl hs E p l e R s mi args below meth c0 H locs cells slots D A ad ca tys lsr Qs hF hR hX hZ hS hA hE hL hQ
  obtain ⟨len, ⟨h0, hkd⟩, hi0, hi1⟩ := hin
  obtain ⟨n, rfl⟩ : ∃ n : Nat, a = (n : Int) := ⟨a.toNat, by omega⟩
  rw [Int.toNat_natCast] at hkd
  have hi := zi0 hs
  have K := kk hm hl (zoks_cons (zok_i (hm.1 _ _)) (zoks_tail (zoks_tail hs))) E p l e R s mi args below meth c0 H locs cells slots D A ad ca tys lsr Qs hF hR hX hZ hS hA hE hL hQ
  have he := zw_at (ad := ad) (ca := ca) (m := m) hkd
  rw [zcell_arr (by decide)] at he
  obtain ⟨t0, ht0⟩ := hZ.2.2.2 n _ hkd (Nat.le_of_ble_eq_true rfl)
  show W p l e R s mi args below meth c0 H locs cells slots Qs (F0 mi pc lsr (.int (Int32.ofInt i) :: zc E ad (2, (n : Int)) :: zst E ad st))
  rw [zc_ref0 h0, Int.toNat_natCast]
  refine va_iald hF.1 hF.2.1 hZ.1 hZ.2.1 n t0 he ht0 (zvin hi0 hi hi1) hd ?_
  rw [zclamp hi0 hi]
  exact K
theorem EvX.zaload {a i : Int} (hd : decode M.2.1 pc = .ok (.baload, 1)) (hin : zIn kd a 1 i) (kk : EvX X d M mc ms (pc + 1) ls ((0, m a i) :: st) kd m Q) : EvX X d M mc ms pc ls ((0, i) :: (2, a) :: st) kd m Q := by
  intro hm hl hs E p l e R s mi args below meth c0 H locs cells slots D A ad ca tys lsr Qs hF hR hX hZ hS hA hE hL hQ
  obtain ⟨len, ⟨h0, hkd⟩, hi0, hi1⟩ := hin
  obtain ⟨n, rfl⟩ : ∃ n : Nat, a = (n : Int) := ⟨a.toNat, by omega⟩
  rw [Int.toNat_natCast] at hkd
  have hi := zi0 hs
  have K := kk hm hl (zoks_cons (zok_i (hm.1 _ _)) (zoks_tail (zoks_tail hs))) E p l e R s mi args below meth c0 H locs cells slots D A ad ca tys lsr Qs hF hR hX hZ hS hA hE hL hQ
  have he := zw_at (ad := ad) (ca := ca) (m := m) hkd
  rw [zcell_arr (by decide)] at he
  obtain ⟨t0, ht0⟩ := hZ.2.2.2 n _ hkd (Nat.le_of_ble_eq_true rfl)
  show W p l e R s mi args below meth c0 H locs cells slots Qs (F0 mi pc lsr (.int (Int32.ofInt i) :: zc E ad (2, (n : Int)) :: zst E ad st))
  rw [zc_ref0 h0, Int.toNat_natCast]
  refine va_zald hF.1 hF.2.1 hZ.1 hZ.2.1 n t0 he ht0 (zvin hi0 hi hi1) hd ?_
  rw [zclamp hi0 hi]
  exact K
theorem EvX.baload {a i : Int} (hd : decode M.2.1 pc = .ok (.baload, 1)) (hin : zIn kd a 2 i) (kk : EvX X d M mc ms (pc + 1) ls ((0, m a i) :: st) kd m Q) : EvX X d M mc ms pc ls ((0, i) :: (2, a) :: st) kd m Q := by
  intro hm hl hs E p l e R s mi args below meth c0 H locs cells slots D A ad ca tys lsr Qs hF hR hX hZ hS hA hE hL hQ
  obtain ⟨len, ⟨h0, hkd⟩, hi0, hi1⟩ := hin
  obtain ⟨n, rfl⟩ : ∃ n : Nat, a = (n : Int) := ⟨a.toNat, by omega⟩
  rw [Int.toNat_natCast] at hkd
  have hi := zi0 hs
  have K := kk hm hl (zoks_cons (zok_i (hm.1 _ _)) (zoks_tail (zoks_tail hs))) E p l e R s mi args below meth c0 H locs cells slots D A ad ca tys lsr Qs hF hR hX hZ hS hA hE hL hQ
  have he := zw_at (ad := ad) (ca := ca) (m := m) hkd
  rw [zcell_arr (by decide)] at he
  obtain ⟨t0, ht0⟩ := hZ.2.2.2 n _ hkd (Nat.le_of_ble_eq_true rfl)
  show W p l e R s mi args below meth c0 H locs cells slots Qs (F0 mi pc lsr (.int (Int32.ofInt i) :: zc E ad (2, (n : Int)) :: zst E ad st))
  rw [zc_ref0 h0, Int.toNat_natCast]
  refine va_bald hF.1 hF.2.1 hZ.1 hZ.2.1 n t0 he ht0 (zvin hi0 hi hi1) hd ?_
  rw [zclamp hi0 hi]
  exact K
theorem zrf_va {ad : Nat → Nat} {x : Int} (E : ZE) : va_rf (zrf ad x) = zc E ad (2, x) := rfl
theorem EvX.aaload {a i : Int} (hd : decode M.2.1 pc = .ok (.aaload, 1)) (hin : zIn kd a 3 i) (kk : EvX X d M mc ms (pc + 1) ls ((2, m a i) :: st) kd m Q) : EvX X d M mc ms pc ls ((0, i) :: (2, a) :: st) kd m Q := by
  intro hm hl hs E p l e R s mi args below meth c0 H locs cells slots D A ad ca tys lsr Qs hF hR hX hZ hS hA hE hL hQ
  obtain ⟨len, ⟨h0, hkd⟩, hi0, hi1⟩ := hin
  obtain ⟨n, rfl⟩ : ∃ n : Nat, a = (n : Int) := ⟨a.toNat, by omega⟩
  rw [Int.toNat_natCast] at hkd
  have hi := zi0 hs
  have K := kk hm hl (zoks_cons (zok_r ⟨hm.1 _ _, (hm.2.1 n _ hkd).1 rfl i⟩) (zoks_tail (zoks_tail hs))) E p l e R s mi args below meth c0 H locs cells slots D A ad ca tys lsr Qs hF hR hX hZ hS hA hE hL hQ
  have he := zw_at (ad := ad) (ca := ca) (m := m) hkd
  rw [zcell_refs] at he
  obtain ⟨t0, ht0⟩ := hZ.2.2.2 n _ hkd (Nat.le_of_ble_eq_true rfl)
  show W p l e R s mi args below meth c0 H locs cells slots Qs (F0 mi pc lsr (.int (Int32.ofInt i) :: zc E ad (2, (n : Int)) :: zst E ad st))
  rw [zc_ref0 h0, Int.toNat_natCast]
  refine va_aldq (C := "ApartGames$Game") hF.1 hF.2.1 hZ.1 hZ.2.1 n t0 he ht0 (zvin hi0 hi hi1) hd ?_
  rw [zclamp hi0 hi]
  exact K
theorem EvX.iastore {a i x : Int} (hd : decode M.2.1 pc = .ok (.iastore, 1)) (hin : zIn kd a 0 i) (kk : EvX X d M mc ms (pc + 1) ls st kd (zup m a i x) Q) : EvX X d M mc ms pc ls ((0, x) :: (0, i) :: (2, a) :: st) kd m Q := by
  intro hm hl hs E p l e R s mi args below meth c0 H locs cells slots D A ad ca tys lsr Qs hF hR hX hZ hS hA hE hL hQ
  obtain ⟨len, ⟨h0, hkd⟩, hi0, hi1⟩ := hin
  obtain ⟨n, rfl⟩ : ∃ n : Nat, a = (n : Int) := ⟨a.toNat, by omega⟩
  rw [Int.toNat_natCast] at hkd
  have hx := zi0 hs
  have hi := zi0 (zoks_tail hs)
  have hm' : zokm kd (zup m n i x) := by
    refine zokm_up (v := (0, x)) hm hx (fun q hq => ⟨fun h3 => ?_, fun c1 h3 j hj ht => ?_⟩) <;> (rw [hkd] at hq; cases hq; dsimp only at h3; omega)
  have he := zw_at (ad := ad) (ca := ca) (m := m) hkd
  rw [zcell_arr (by decide)] at he
  obtain ⟨t0, ht0⟩ := hZ.2.2.2 n _ hkd (Nat.le_of_ble_eq_true rfl)
  show W p l e R s mi args below meth c0 H locs cells slots Qs (F0 mi pc lsr (.int (Int32.ofInt x) :: .int (Int32.ofInt i) :: zc E ad (2, (n : Int)) :: zst E ad st))
  rw [zc_ref0 h0, Int.toNat_natCast]
  refine va_iast hF.1 hF.2.1 hZ.1 hZ.2.1 hZ.2.2.1 hS n t0 he ht0 (zvin hi0 hi hi1) hd (fun H1 locs1 hP1 hD1 hS1 => ?_)
  rw [zw_set hkd (m' := zup m n i x) (by
    rw [zcell_arr (by decide)]
    refine congrArg (fun f : Nat → Int32 => (Sum.inl (ca n, len, Sum.inl f) : va_E)) (funext fun j => ?_)
    have := zclamp hi0 hi
    simp only [upd, zup]
    by_cases hj : j = (Int32.ofInt i).toNatClampNeg
    · rw [if_pos hj, if_pos ⟨trivial, by omega⟩]
    · rw [if_neg hj, if_neg (by omega)]) (fun b j hb => zup_ne (by omega))] at hP1 hD1
  exact kk hm' hl (zoks_tail (zoks_tail (zoks_tail hs))) E p l e R s mi args below meth c0 H1 locs1 cells slots D A ad ca tys lsr Qs hF hR hX ⟨hZ.1, hP1, hD1, hZ.2.2.2⟩ hS1 hA hE hL hQ
theorem zi_nar1 {x : Int} (h0 : 0 ≤ x) (h1 : x ≤ 1) : vp_nar .boolean (Int32.ofInt x) = Int32.ofInt x := by
  rcases (show x = 0 ∨ x = 1 by omega) with rfl | rfl <;> rfl
theorem EvX.zastore {a i x : Int} (hd : decode M.2.1 pc = .ok (.bastore, 1)) (hin : zIn kd a 1 i) (hx01 : 0 ≤ x ∧ x ≤ 1) (kk : EvX X d M mc ms (pc + 1) ls st kd (zup m a i x) Q) : EvX X d M mc ms pc ls ((0, x) :: (0, i) :: (2, a) :: st) kd m Q := by
  intro hm hl hs E p l e R s mi args below meth c0 H locs cells slots D A ad ca tys lsr Qs hF hR hX hZ hS hA hE hL hQ
  obtain ⟨len, ⟨h0, hkd⟩, hi0, hi1⟩ := hin
  obtain ⟨n, rfl⟩ : ∃ n : Nat, a = (n : Int) := ⟨a.toNat, by omega⟩
  rw [Int.toNat_natCast] at hkd
  have hx := zi0 hs
  have hi := zi0 (zoks_tail hs)
  have hm' : zokm kd (zup m n i x) := by
    refine zokm_up (v := (0, x)) hm hx (fun q hq => ⟨fun h3 => ?_, fun c1 h3 j hj ht => ?_⟩) <;> (rw [hkd] at hq; cases hq; dsimp only at h3; omega)
  have he := zw_at (ad := ad) (ca := ca) (m := m) hkd
  rw [zcell_arr (by decide)] at he
  obtain ⟨t0, ht0⟩ := hZ.2.2.2 n _ hkd (Nat.le_of_ble_eq_true rfl)
  show W p l e R s mi args below meth c0 H locs cells slots Qs (F0 mi pc lsr (.int (Int32.ofInt x) :: .int (Int32.ofInt i) :: zc E ad (2, (n : Int)) :: zst E ad st))
  rw [zc_ref0 h0, Int.toNat_natCast]
  refine va_zast hF.1 hF.2.1 hZ.1 hZ.2.1 hZ.2.2.1 hS n t0 he ht0 (zvin hi0 hi hi1) hd (fun H1 locs1 hP1 hD1 hS1 => ?_)
  rw [zi_nar1 hx01.1 hx01.2, zw_set hkd (m' := zup m n i x) (by
    rw [zcell_arr (by decide)]
    refine congrArg (fun f : Nat → Int32 => (Sum.inl (ca n, len, Sum.inl f) : va_E)) (funext fun j => ?_)
    have := zclamp hi0 hi
    simp only [upd, zup]
    by_cases hj : j = (Int32.ofInt i).toNatClampNeg
    · rw [if_pos hj, if_pos ⟨trivial, by omega⟩]
    · rw [if_neg hj, if_neg (by omega)]) (fun b j hb => zup_ne (by omega))] at hP1 hD1
  exact kk hm' hl (zoks_tail (zoks_tail (zoks_tail hs))) E p l e R s mi args below meth c0 H1 locs1 cells slots D A ad ca tys lsr Qs hF hR hX ⟨hZ.1, hP1, hD1, hZ.2.2.2⟩ hS1 hA hE hL hQ
theorem zi_nar8 {x : Int} (h0 : -128 ≤ x) (h1 : x ≤ 127) : vp_nar .byte (Int32.ofInt x) = Int32.ofInt x := by
  rw [vp_nar_byte]
  apply Int32.toInt_inj.mp
  rw [Int8.toInt_toInt32, Int32.toInt_toInt8, zi_toInt ⟨by omega, by omega⟩]
  exact Int.bmod_eq_of_le (by omega) (by omega)
theorem EvX.bastore {a i x : Int} (hd : decode M.2.1 pc = .ok (.bastore, 1)) (hin : zIn kd a 2 i) (hx8 : -128 ≤ x ∧ x ≤ 127) (kk : EvX X d M mc ms (pc + 1) ls st kd (zup m a i x) Q) : EvX X d M mc ms pc ls ((0, x) :: (0, i) :: (2, a) :: st) kd m Q := by
  intro hm hl hs E p l e R s mi args below meth c0 H locs cells slots D A ad ca tys lsr Qs hF hR hX hZ hS hA hE hL hQ
  obtain ⟨len, ⟨h0, hkd⟩, hi0, hi1⟩ := hin
  obtain ⟨n, rfl⟩ : ∃ n : Nat, a = (n : Int) := ⟨a.toNat, by omega⟩
  rw [Int.toNat_natCast] at hkd
  have hx := zi0 hs
  have hi := zi0 (zoks_tail hs)
  have hm' : zokm kd (zup m n i x) := by
    refine zokm_up (v := (0, x)) hm hx (fun q hq => ⟨fun h3 => ?_, fun c1 h3 j hj ht => ?_⟩) <;> (rw [hkd] at hq; cases hq; dsimp only at h3; omega)
  have he := zw_at (ad := ad) (ca := ca) (m := m) hkd
  rw [zcell_arr (by decide)] at he
  obtain ⟨t0, ht0⟩ := hZ.2.2.2 n _ hkd (Nat.le_of_ble_eq_true rfl)
  show W p l e R s mi args below meth c0 H locs cells slots Qs (F0 mi pc lsr (.int (Int32.ofInt x) :: .int (Int32.ofInt i) :: zc E ad (2, (n : Int)) :: zst E ad st))
  rw [zc_ref0 h0, Int.toNat_natCast]
  refine va_bast hF.1 hF.2.1 hZ.1 hZ.2.1 hZ.2.2.1 hS n t0 he ht0 (zvin hi0 hi hi1) hd (fun H1 locs1 hP1 hD1 hS1 => ?_)
  rw [zi_nar8 hx8.1 hx8.2, zw_set hkd (m' := zup m n i x) (by
    rw [zcell_arr (by decide)]
    refine congrArg (fun f : Nat → Int32 => (Sum.inl (ca n, len, Sum.inl f) : va_E)) (funext fun j => ?_)
    have := zclamp hi0 hi
    simp only [upd, zup]
    by_cases hj : j = (Int32.ofInt i).toNatClampNeg
    · rw [if_pos hj, if_pos ⟨trivial, by omega⟩]
    · rw [if_neg hj, if_neg (by omega)]) (fun b j hb => zup_ne (by omega))] at hP1 hD1
  exact kk hm' hl (zoks_tail (zoks_tail (zoks_tail hs))) E p l e R s mi args below meth c0 H1 locs1 cells slots D A ad ca tys lsr Qs hF hR hX ⟨hZ.1, hP1, hD1, hZ.2.2.2⟩ hS1 hA hE hL hQ
theorem EvX.aastore {a i v : Int} (hd : decode M.2.1 pc = .ok (.aastore, 1)) (hin : zIn kd a 3 i) (hv : zobj kd v 1) (kk : EvX X d M mc ms (pc + 1) ls st kd (zup m a i v) Q) : EvX X d M mc ms pc ls ((2, v) :: (0, i) :: (2, a) :: st) kd m Q := by
  intro hm hl hs E p l e R s mi args below meth c0 H locs cells slots D A ad ca tys lsr Qs hF hR hX hZ hS hA hE hL hQ
  obtain ⟨len, ⟨h0, hkd⟩, hi0, hi1⟩ := hin
  obtain ⟨n, rfl⟩ : ∃ n : Nat, a = (n : Int) := ⟨a.toNat, by omega⟩
  rw [Int.toNat_natCast] at hkd
  obtain ⟨hv0, hvk⟩ := hv
  have hvo := (zoks_head hs).2.2 rfl
  obtain ⟨w, rfl⟩ : ∃ n : Nat, v = (n : Int) := ⟨v.toNat, by omega⟩
  rw [Int.toNat_natCast] at hvk
  have hi := zi0 (zoks_tail hs)
  have hm' : zokm kd (zup m n i w) := by
    refine zokm_up (v := (2, (w : Int))) hm hvo.1 (fun q hq => ⟨fun h3 => hvo.2, fun c1 h3 j hj ht => hvo.2⟩)
  have he := zw_at (ad := ad) (ca := ca) (m := m) hkd
  rw [zcell_refs] at he
  have hev := zw_at (ad := ad) (ca := ca) (m := m) hvk
  rw [zcell_obj] at hev
  obtain ⟨t0, ht0⟩ := hZ.2.2.2 n _ hkd (Nat.le_of_ble_eq_true rfl)
  show W p l e R s mi args below meth c0 H locs cells slots Qs (F0 mi pc lsr (zc E ad (2, (w : Int)) :: .int (Int32.ofInt i) :: zc E ad (2, (n : Int)) :: zst E ad st))
  rw [zc_ref0 h0, zc_ref0 hv0, Int.toNat_natCast, Int.toNat_natCast]
  refine va_astq (r := (R_Game, T_Game, 7)) hF.1 hF.2.1 hZ.1 hZ.2.1 hZ.2.2.1 hS n t0 w 1 he ht0 hev rfl (zvin hi0 hi hi1) hd (fun H1 locs1 hP1 hD1 hS1 => ?_)
  rw [zw_set hkd (m' := zup m n i w) (by
    rw [zcell_refs]
    refine congrArg (fun f : Nat → Option Nat => (Sum.inl (ca n, len, Sum.inr (Sum.inr (Sum.inr (Sum.inr f)))) : va_E)) (funext fun j => ?_)
    have := zclamp hi0 hi
    simp only [va_up, zup]
    by_cases hj : j = (Int32.ofInt i).toNatClampNeg
    · rw [if_pos hj, if_pos ⟨trivial, by omega⟩]
      simp [zrf]
    · rw [if_neg hj, if_neg (by omega)]) (fun b j hb => zup_ne (by omega))] at hP1 hD1
  exact kk hm' hl (zoks_tail (zoks_tail (zoks_tail hs))) E p l e R s mi args below meth c0 H1 locs1 cells slots D A ad ca tys lsr Qs hF hR hX ⟨hZ.1, hP1, hD1, hZ.2.2.2⟩ hS1 hA hE hL hQ
/-- the length of an array -/
theorem EvX.alen {a : Int} {t n : Nat} (hd : decode M.2.1 pc = .ok (.arraylength, 1)) (ha : zarr kd a t n) (ht : t ≤ 3) (hn : n < 2 ^ 31) (kk : EvX X d M mc ms (pc + 1) ls ((0, (n : Int)) :: st) kd m Q) : EvX X d M mc ms pc ls ((2, a) :: st) kd m Q := by
  intro hm hl hs E p l e R s mi args below meth c0 H locs cells slots D A ad ca tys lsr Qs hF hR hX hZ hS hA hE hL hQ
  obtain ⟨h0, hkd⟩ := ha
  obtain ⟨w, rfl⟩ : ∃ n : Nat, a = (n : Int) := ⟨a.toNat, by omega⟩
  rw [Int.toNat_natCast] at hkd
  have K := kk hm hl (zoks_cons (zok_i ⟨by omega, by omega⟩) (zoks_tail hs)) E p l e R s mi args below meth c0 H locs cells slots D A ad ca tys lsr Qs hF hR hX hZ hS hA hE hL hQ
  have he := zw_at (ad := ad) (ca := ca) (m := m) hkd
  obtain ⟨t0, ht0⟩ := hZ.2.2.2 w _ hkd ht
  show W p l e R s mi args below meth c0 H locs cells slots Qs (F0 mi pc lsr (zc E ad (2, (w : Int)) :: zst E ad st))
  rw [zc_ref0 h0, Int.toNat_natCast]
  have ev : Int32.ofNat n = Int32.ofInt (n : Int) := rfl
  by_cases h3 : t < 3
  · rw [zcell_arr h3] at he
    exact va_alen hF.1 hF.2.1 hZ.1 hZ.2.1 w t0 he ht0 ev hd K
  · have e3 : t = 3 := by omega
    subst e3
    rw [zcell_refs] at he
    exact va_alen hF.1 hF.2.1 hZ.1 hZ.2.1 w t0 he ht0 ev hd K
/-- the script -/
theorem EvX.slen {L : Nat} {xs : Nat → Int} {z : Int} (hd : decode M.2.1 pc = .ok (.arraylength, 1)) (kk : EvX (some (L, xs)) d M mc ms (pc + 1) ls ((0, (L : Int)) :: st) kd m Q) : EvX (some (L, xs)) d M mc ms pc ls ((4, z) :: st) kd m Q := by
  intro hm hl hs E p l e R s mi args below meth c0 H locs cells slots D A ad ca tys lsr Qs hF hR hX hZ hS hA hE hL hQ
  obtain ⟨x1, x2, x3⟩ := hX L xs rfl
  have K := kk hm hl (zoks_cons (zok_i ⟨by omega, by omega⟩) (zoks_tail hs)) E p l e R s mi args below meth c0 H locs cells slots D A ad ca tys lsr Qs hF hR hX hZ hS hA hE hL hQ
  obtain ⟨-, -, -, -, -, -, g7, g8, g9, -⟩ := hE
  rw [x1] at g7
  exact va_slen hF.1 hF.2.1 g7 g8 g9 hS hd K
theorem EvX.sload {L : Nat} {xs : Nat → Int} {z i : Int} (hd : decode M.2.1 pc = .ok (.iaload, 1)) (hi : 0 ≤ i ∧ i < L) (kk : EvX (some (L, xs)) d M mc ms (pc + 1) ls ((0, xs i.toNat) :: st) kd m Q) : EvX (some (L, xs)) d M mc ms pc ls ((0, i) :: (4, z) :: st) kd m Q := by
  intro hm hl hs E p l e R s mi args below meth c0 H locs cells slots D A ad ca tys lsr Qs hF hR hX hZ hS hA hE hL hQ
  obtain ⟨x1, x2, x3⟩ := hX L xs rfl
  have hii := zi0 hs
  have K := kk hm hl (zoks_cons (zok_i (x3 _).1) (zoks_tail (zoks_tail hs))) E p l e R s mi args below meth c0 H locs cells slots D A ad ca tys lsr Qs hF hR hX hZ hS hA hE hL hQ
  obtain ⟨-, -, -, -, -, -, g7, g8, g9, -⟩ := hE
  rw [x1] at g7
  refine va_sld hF.1 hF.2.1 g7 g8 g9 hS (zvin hi.1 hii hi.2) hd ?_
  have ec : (Int32.ofInt i).toNatClampNeg = i.toNat := by have := zclamp hi.1 hii; omega
  rw [ec, (x3 i.toNat).2]
  exact K
end EVH
