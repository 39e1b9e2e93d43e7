theorem whole_of {p : Program} {e : Env} {s : State} {m : MethodId} {below : List Frame} {meth : Method} {c : Code} (l : Launch) {b L : Nat} {xs : Nat → Int32} (hf : ok (f_L_loop S_1 L xs 514 0 80 0 H_5) (fun z _ => z = .inr ())) (C0 : lw_At p s m meth c b L xs) : W p l e room_1 s m #[Value.ref b] below meth c s.heap [] 0 0 (lw_Z below #[Value.ref b] s) (entryFrame m ([Value.ref b] : List Value).toArray 4) := by
  obtain ⟨G, B, hB1, hB2, hK, hX⟩ := known C0
  obtain ⟨hx, hb, hr, hml, hown, hts, hXs, hbl, hlocks, hgv, hname⟩ := C0
  have C : CX (M_law L xs) 1000 p room_1 s m #[.ref b] meth c G B 600000 7302249 := ⟨hx, hb, hr, hml, fun w h => hts w (tt_in w h), hown, hlocks, hname, ⟨Nat.le_of_ble_eq_true rfl, Nat.le_of_ble_eq_true rfl⟩, ⟨Nat.le_of_ble_eq_true rfl, Nat.le_of_ble_eq_true rfl⟩, hK, hX, by omega, by rw [hB2]; exact hXs, by rw [hB2]; exact hbl, by rw [hB1, hB2]; omega⟩
  have k := law_top (Ls := L) (xs := xs) (d := 1000) (cb := 598348) (sb := 7032787) (Nat.le_of_ble_eq_true rfl) hf
  rw [lg_entry_eq]
  have hl : LH ((lg_sl [Value.ref b] ++ List.replicate (4 - (lg_sl [Value.ref b]).length) Slot.unset).toArray) 4 B (enL 4 [.double 0]) := by
    refine LH.entry ?_
    show lv_has _ 4 (lv_args 0 [.ref B.2.1])
    rw [hB2]
    exact lv_entry [.ref b] (Nat.le_of_ble_eq_true rfl)
  have hW : Wd S_0 G B h_0 s.heap := ⟨by rw [hB1]; rfl, fun q kk hk => by simp [KD, S_0, h_0] at hk⟩
  intro T hT X
  obtain ⟨t, st, o, h1, h2, ⟨r, h', e1, e2, e3, e4⟩, L', h3, h4⟩ := k p l e room_1 s m #[.ref b] below meth c G B 600000 7302249 C _ s.heap [] 0 0 hl hW va_S.rf ⟨rfl, rfl⟩ T hT X
  refine ⟨t, st, o, h1, h2, ?_, h3.1, h3.2.1, new_locs h3.2.2 (fun q hq => by have := h4 q hq; omega)⟩
  rw [e1, e2]
  rfl
