def bnd (kk : Nat × Nat) : Nat := match kk.1 with
  | 0 => cN kk.2
  | 1 => 0
  | 2 => 0
  | 3 => 0
  | _ => kk.2
theorem arrV_congr {c : ClassId} {n : Nat} {f g : Nat → Value} (h : ∀ j, j < n → f j = g j) : arrV c n f = arrV c n g := by
  have e : (Array.ofFn (n := n) fun j => f j.val) = Array.ofFn (n := n) fun j => g j.val := by
    congr 1
    funext j
    exact h j.val j.isLt
  show ({ cls := c, slots := Array.ofFn (n := n) fun j => f j.val, vm := .none } : Cell) = _
  rw [e]
  rfl
theorem va_at_to {S S' : SH} {G : GG} {B : BB} {h h' : AH} {H : Heap} {p : Nat} {kk : Nat × Nat} (hI : h'.2.1 = h.2.1) (hJ : h'.2.2.1 = h.2.2.1) (hR : ∀ k, k < bnd kk → RF S' h' p k = RF S h p k) (hw : va_at G.1 vwCl (B.1 + p, vcell S G B h p kk) H) : va_at G.1 vwCl (B.1 + p, vcell S' G B h' p kk) H := by
  obtain ⟨t, n⟩ := kk
  have arr : ∀ c : ClassId, (∀ k, k < n → RF S' h' p k = RF S h p k) → vp_cell c (n, .inr (.inr (.inr (.inr (fun j => (RF S' h' p j).map (B.1 + ·)))))) = vp_cell c (n, .inr (.inr (.inr (.inr (fun j => (RF S h p j).map (B.1 + ·)))))) := fun c hz => by
    rw [vp_cell_q, vp_cell_q]
    exact arrV_congr fun j hj => by rw [hz j hj]
  match t, hR, hw with
  | 0, hR, hw =>
    have e : fs_ S' B h' p n = fs_ S B h p n := by
      unfold fs_
      apply List.map_congr_left
      intro k hk
      have := hR k (List.mem_range.mp hk)
      unfold avl
      rw [hI, hJ, this]
    show va_at G.1 vwCl (B.1 + p, .inr (n, fs_ S' B h' p n)) H
    rw [e]
    exact hw
  | 1, hR, hw =>
    show va_at G.1 vwCl (B.1 + p, .inl (G.2.1 0, n, .inl (h'.2.1 p))) H
    rw [hI]
    exact hw
  | 2, hR, hw =>
    show va_at G.1 vwCl (B.1 + p, .inl (G.2.1 1, n, .inr (.inl (h'.2.2.1 p)))) H
    rw [hJ]
    exact hw
  | 3, hR, hw =>
    show va_at G.1 vwCl (B.1 + p, .inl (G.2.1 2, n, .inl (h'.2.1 p))) H
    rw [hI]
    exact hw
  | 4, hR, hw => exact Eq.trans (b := some _) hw (congrArg some (arr _ hR).symm)
  | t + 5, hR, hw => exact Eq.trans (b := some _) hw (congrArg some (arr _ hR).symm)
def unc (S : SH) (h : AH) : AH := (S.1 ++ h.1, h.2.1, h.2.2.1, fun p k => RF S h p k)
theorem Wd.unc {S : SH} {G : GG} {B : BB} {h : AH} {H : Heap} (hw : Wd S G B h H) : Wd S_0 G B (unc S h) H := by
  refine ⟨hw.1, fun p kk hk => ?_⟩
  exact va_at_to (S := S) (h := h) rfl rfl (fun k _ => rfl) (hw.2 p kk hk)
/-- the same heap with the constructors' places at hand -/
theorem wp_switch {S : SH} {M : MD} {d cb sb pc : Nat} {L st : List Value} {h h' : AH} {Q : Option Value → Prop} (hK : h.1 = S.1 ++ h'.1) (hI : h'.2.1 = h.2.1) (hJ : h'.2.2.1 = h.2.2.1) (hR : ∀ p kk, KD S h' p = some kk → ∀ k, k < bnd kk → RF S h' p k = RF S_0 h p k) (k : WP S M d cb sb (fun r _ => Q r) pc L st h') : WP S_0 M d cb sb (fun r _ => Q r) pc L st h := by
  intro p l e R s m args below meth c G B mc ms C ls H locs cells slots hl hw hS hn T hT X
  have hKD : ∀ q, KD S h' q = KD S_0 h q := fun q => by show (S.1 ++ h'.1)[q]? = ([] ++ h.1)[q]?; rw [hK]; rfl
  have hw' : Wd S G B h' H := by
    refine ⟨?_, fun q kk hk => va_at_to hI hJ (hR q kk hk) (hw.2 q kk (by rw [← hKD]; exact hk))⟩
    rw [hw.1]
    show B.1 + ([] ++ h.1).length = _
    rw [hK]
    rfl
  obtain ⟨t, st', o, h1, h2, ⟨r, h3, e1, e2, e3, e4⟩, h5⟩ := k p l e R s m args below meth c G B mc ms C ls H locs cells slots hl hw' hS hn T hT X
  exact ⟨t, st', o, h1, h2, ⟨r, unc S h3, e1, e2, e3.unc, e4⟩, h5⟩
/-- the heap at the law's loop -/
def H_5 : AH := ([], H_4.2.1, H_4.2.2.1, H_4.2.2.2)
theorem r_H4 : (List.range 110).all (fun p => (List.range (bnd (K_0.getD p (1, 0)))).all fun k => decide (RF S_1 H_5 p k = RF S_0 H_4 p k)) = true := by decide +kernel
theorem some_of {x : Option (Unit × AH)} (h : x.isSome = true) (d : Unit × AH) : x = some ((), (x.getD d).2) := by
  cases x with
  | none => cases h
  | some z => rfl
theorem x_H2 : f_X10_init S_0 0 H_1 = some ((), H_2) := by
  unfold H_2
  exact some_of e_H2 _
theorem x_H4 : f_X11_init S_0 80 H_3 = some ((), H_4) := by
  unfold H_4
  exact some_of e_H4 _
set_option maxRecDepth 20000 in
theorem law_top {Ls : Nat} {xs : Nat → Int32} {d cb sb : Nat} (hd : 86 ≤ d) (k : ok (f_L_loop S_1 Ls xs 514 0 80 0 H_5) (fun z _ => z = .inr ())) : WP S_0 (M_law Ls xs) d (cb + 1652) (sb + 269462) (fun r _ => r = some (.int 1)) 0 [.double 0, JK, JK, JK] [] h_0 := by
  obtain ⟨d, rfl, he⟩ := dp (L := 85) hd
  refine wq_new (cb := (cb + 1651)) (sb := (sb + 269442)) nw_L_7 (n := 20) rfl dL_law_0 (p := 0) (h1 := H_1) rfl ?_
  refine wp_dupR dL_law_3 ?_
  refine wp_callI0 (N := M_X10_init) (cb := (cb + 1572)) (sb := (sb + 264559)) mf_X10_init rfl mi_X10_init rfl ml_L_9 dL_law_4 (by exact Nat.le_of_ble_eq_true rfl) (c_X10_init (Nat.le_trans (by decide) he) ⟨(), H_2, x_H2, ?_⟩)
  refine wp_astore_n dL_law_7 (by exact Nat.le_of_ble_eq_true rfl) (L1 := [_, _, _, _]) rfl ?_
  refine wq_new (cb := (cb + 1571)) (sb := (sb + 264501)) nw_L_10 (n := 58) rfl dL_law_8 (p := 80) (h1 := H_3) (by unfold nwO H_3; rw [if_neg (by simp [S_0])]; rw [show (S_0.1 ++ H_2.1).length = 80 from by rw [k_H2]; rfl]) ?_
  refine wp_dupR dL_law_11 ?_
  refine wp_callI0 (N := M_X11_init) (cb := (cb + 1542)) (sb := (sb + 244664)) mf_X11_init rfl mi_X11_init rfl ml_L_12 dL_law_12 (by exact Nat.le_of_ble_eq_true rfl) (c_X11_init (Nat.le_trans (by decide) he) ⟨(), H_4, x_H4, ?_⟩)
  refine wp_astore_n dL_law_15 (by exact Nat.le_of_ble_eq_true rfl) (L1 := [_, _, _, _]) rfl ?_
  refine wp_iconst dL_law_16 ic_0 ?_
  refine wp_istore_n dL_law_17 (by exact Nat.le_of_ble_eq_true rfl) (L1 := [_, _, _, _]) rfl ?_
  refine wp_switch (S := S_1) (h' := H_5) (by rw [k_H4]; rfl) rfl rfl (fun p kk hk j hj => ?_) ?_
  · have hp : p < 110 := (List.getElem?_eq_some_iff.mp hk).1
    have h1 := List.all_eq_true.mp r_H4 p (List.mem_range.mpr hp)
    have h2 : K_0[p]? = some kk := by
      have : KD S_1 H_5 p = (K_0 ++ [])[p]? := rfl
      rw [this, List.append_nil] at hk
      exact hk
    rw [List.getD_eq_getElem?_getD, h2] at h1
    exact of_decide_eq_true (List.all_eq_true.mp h1 j (List.mem_range.mpr hj))
  refine wp_wk (wkE <| wkE <| wkE <| wkE <| wkN) ?_
  refine s_L_loop (cb := cb) (sb := sb) (K := fun z _ => z = .inr ()) (Nat.succ_le_succ he) (fun w h' k => by cases k) (fun h' k => ?_) 514 _ _ _ _ k
  refine wp_iconst dL_law_1282 ic_1 ?_
  exact wp_iret rfl rfl dL_law_1283 rfl
