/-! THE MACHINE IS SOUND -/
section XMAIN
variable {l : Launch} {b L B : Nat} {xs : Nat → Int32} {D : va_G} {cI cZ cJ : ClassId}
theorem xcondT {co : Jvm.ClassFile.Cond} {x y1 : Int32} {p : Program} {e : Env} {R : Room} {s : State} {m : MethodId} {args : Array Value} {below : List Frame} {meth : Method} {c : Code} {H : Heap} {locs : List Loc} {cells slots : Nat} {Q : State → Prop} {A : Array Slot} {cc : ByteArray} {pc tgt : Nat} {off : Int} {rest : List Value}
    (hx : p.tables.exec = Jvm.exec) (hb : c.code = cc) (hd : decode cc pc = .ok (.if_icmp co off, 3)) (ht : (pc : Int) + off = (tgt : Int))
    (kt : xcond co x y1 = true → W p l e R s m args below meth c H locs cells slots Q (F0 m tgt A rest)) (kf : xcond co x y1 = false → W p l e R s m args below meth c H locs cells slots Q (F0 m (pc + 3) A rest)) :
    W p l e R s m args below meth c H locs cells slots Q (F0 m pc A (.int y1 :: .int x :: rest)) := by
  cases co with
  | eq => exact lv_icmp_eq hx hb hd ht (fun h => kt (decide_eq_true h)) (fun h => kf (decide_eq_false h))
  | ne => exact lv_icmp_ne hx hb hd ht (fun h => kt (decide_eq_true h)) (fun h => kf (decide_eq_false (fun z => z h)))
  | lt => exact lv_icmp_lt hx hb hd ht (fun h => kt (decide_eq_true h)) (fun h => kf (decide_eq_false h))
  | ge => exact lv_icmp_ge hx hb hd ht (fun h => kt (decide_eq_true h)) (fun h => kf (decide_eq_false h))
  | gt => exact lv_icmp_gt hx hb hd ht (fun h => kt (decide_eq_true h)) (fun h => kf (decide_eq_false h))
  | le => exact lv_icmp_le hx hb hd ht (fun h => kt (decide_eq_true h)) (fun h => kf (decide_eq_false h))
theorem xcondZ {co : Jvm.ClassFile.Cond} {x : Int32} {p : Program} {e : Env} {R : Room} {s : State} {m : MethodId} {args : Array Value} {below : List Frame} {meth : Method} {c : Code} {H : Heap} {locs : List Loc} {cells slots : Nat} {Q : State → Prop} {A : Array Slot} {cc : ByteArray} {pc tgt : Nat} {off : Int} {rest : List Value}
    (hx : p.tables.exec = Jvm.exec) (hb : c.code = cc) (hd : decode cc pc = .ok (.ifCond co off, 3)) (ht : (pc : Int) + off = (tgt : Int))
    (kt : xcond co x 0 = true → W p l e R s m args below meth c H locs cells slots Q (F0 m tgt A rest)) (kf : xcond co x 0 = false → W p l e R s m args below meth c H locs cells slots Q (F0 m (pc + 3) A rest)) :
    W p l e R s m args below meth c H locs cells slots Q (F0 m pc A (.int x :: rest)) := by
  cases co with
  | eq => exact lv_if_eq hx hb hd ht (fun h => kt (decide_eq_true h)) (fun h => kf (decide_eq_false h))
  | ne => exact lv_if_ne hx hb hd ht (fun h => kt (decide_eq_true h)) (fun h => kf (decide_eq_false (fun z => z h)))
  | lt => exact lv_if_lt hx hb hd ht (fun h => kt (decide_eq_true h)) (fun h => kf (decide_eq_false h))
  | ge => exact lv_if_ge hx hb hd ht (fun h => kt (decide_eq_true h)) (fun h => kf (decide_eq_false h))
  | gt => exact lv_if_gt hx hb hd ht (fun h => kt (decide_eq_true h)) (fun h => kf (decide_eq_false h))
  | le => exact lv_if_le hx hb hd ht (fun h => kt (decide_eq_true h)) (fun h => kf (decide_eq_false h))
theorem xstk (b B : Nat) (v : Option Value) (rst : List Value) : (v.map (xtr b B)).toList ++ rst.map (xtr b B) = (v.toList ++ rst).map (xtr b B) := by
  cases v <;> rfl
set_option maxHeartbeats 4000000 in
theorem xsound (K : xAll) : ∀ f, xSound l b L B xs D cI cZ cJ f := by
  intro f
  induction f with
  | zero => intro y pc ls st σ r h; cases h
  | succ f ih =>
    intro y pc ls st σ r h p e R s m args below meth c H locs cells slots A mc ms C hS e1 e2 h1 h2 hF hO
    obtain ⟨q, hq, ⟨hi, as, rst, r', ha, hr', h3⟩ | ⟨hi, h3⟩⟩ := xr_cases h
    · have hk := K.1 y pc q hq
      obtain ⟨m1, m2⟩ := xr_mono _ _ _ _ _ _ _ hr'
      have hle : xnt r'.2 ≤ xnt r.2 ∧ xsl r'.2 ≤ xsl r.2 := by
        rcases h3 with ⟨v, -, g2⟩ | ⟨k, -, -, -, rfl⟩ | ⟨k, c9, -, -, -, rfl⟩
        · exact xr_mono _ _ _ _ _ _ _ g2
        · exact ⟨Nat.le_refl _, Nat.le_refl _⟩
        · exact ⟨Nat.le_refl _, Nat.le_refl _⟩
      refine xsize fun hsz => ?_
      obtain ⟨a0, hrun⟩ := xcall (e := e) (R := R) (args := args) (below := below) (slots := slots) C hk.1 hk.2 hi ha ih hr' (fun k hk9 => by
        rcases h3 with ⟨v, g1, -⟩ | ⟨k, -, g2, -, -⟩ | ⟨k, c9, -, g2, -, -⟩
        · rw [hk9] at g1; cases g1
        · exact g2
        · exact g2) hS (by omega) (by omega) hF hO (Nat.le_trans hsz hS.2.2.2)
      refine xafter hrun hS.2.1 (fun v H' locs' hv hP' hS' => ?_) (fun k q9 ce H' locs' hk1 hk2 hP' hS' hce hcv hcl => ?_)
      · rcases h3 with ⟨v9, g1, g2⟩ | ⟨k, g1, -⟩ | ⟨k, c9, g1, -⟩
        · cases Sum.inl.inj (hv.symm.trans g1)
          rw [xstk]
          have hb4 := hS.2.2.2
          exact ih y (pc + 3) ls _ r'.2 r g2 p e R s m args below meth c H' locs' _ _ A mc ms C ⟨hP', hS', hS.2.2.1, by omega⟩ (by omega) (by omega) h1 h2 hF hO
        · rw [hv] at g1; cases g1
        · rw [hv] at g1; cases g1
      · rcases h3 with ⟨v9, g1, g2⟩ | ⟨k9, g1, -, g3, rfl⟩ | ⟨k9, c9, g1, -, g3, rfl⟩
        · rw [hk1] at g1; cases g1
        · cases Sum.inr.inj (hk1.symm.trans g1)
          exact xgo_out K C g3 rfl hk2 hP' hS' (by dsimp only at e1; omega) (by dsimp only at e2; omega) hce hcv hcl
        · cases Sum.inr.inj (hk1.symm.trans g1)
          exact xgo_catch K C g3 rfl hk2 hP' hS' hS.2.2.1 (by dsimp only at e1; omega) (by dsimp only at e2; omega) hce hcv hcl
    · have hk := K.1 y pc q hq
      have hI := xdecI hk.1
      have C0 := C
      obtain ⟨hx, hb, hrt, hml, hown, hnm, hlk, htr, hT, hZ, htb⟩ := C
      rcases h3 with ⟨co, o, y1, x1, rst, g1, rfl, g3, g4⟩ | ⟨co, o, x1, rst, g1, rfl, g3, g4⟩ | ⟨x, g1, rfl, g3, rfl⟩ | ⟨g1, rfl, g3, rfl⟩ | ⟨k, rst, σ', g1, g2, g3, g4⟩ | ⟨k, a0, rst, g1, g2, rfl, g4, g5⟩ | ⟨g1, g2, g3, g4, g5⟩ | ⟨g1, pc', ls', st', σ', g2, g3⟩
      · obtain ⟨i, len, ⟨a, bb, d, ix⟩, v, lv⟩ := q
        dsimp only at g1
        subst g1
        exact xcondT hx hb (xdec hk.1 rfl) (of_decide_eq_true hI) (fun z => ih y a ls rst σ r (g3 z) p e R s m args below meth c H locs cells slots A mc ms C0 hS e1 e2 h1 h2 hF hO) (fun z => ih y (pc + 3) ls rst σ r (g4 z) p e R s m args below meth c H locs cells slots A mc ms C0 hS e1 e2 h1 h2 hF hO)
      · obtain ⟨i, len, ⟨a, bb, d, ix⟩, v, lv⟩ := q
        dsimp only at g1
        subst g1
        exact xcondZ hx hb (xdec hk.1 rfl) (of_decide_eq_true hI) (fun z => ih y a ls rst σ r (g3 z) p e R s m args below meth c H locs cells slots A mc ms C0 hS e1 e2 h1 h2 hF hO) (fun z => ih y (pc + 3) ls rst σ r (g4 z) p e R s m args below meth c H locs cells slots A mc ms C0 hS e1 e2 h1 h2 hF hO)
      · obtain ⟨i, len, ⟨a, bb, d, ix⟩, v, lv⟩ := q
        dsimp only at g1
        subst g1
        dsimp only at e1 e2
        refine W.widen (k := mc) (n := ms) (by omega) (by omega) (vx_ret ?_)
        rcases g3 with g3 | ⟨g3, g4⟩
        · exact W.iret hx hb (hrt.trans g3) (fun t ht hW => ⟨⟨_, rfl, rfl⟩, by rw [ht]; exact hS.1, hS.2.1.F ht⟩) hS.2.1.2.2 (xdec hk.1 rfl) hlk
        · exact W.zret (ty := .boolean) hx hb (hrt.trans g3) (xnar01 g4).1 (fun t ht hW => ⟨⟨_, rfl, rfl⟩, by rw [ht]; exact hS.1, hS.2.1.F ht⟩) hS.2.1.2.2 (xdec hk.1 rfl) hlk
      · obtain ⟨i, len, ⟨a, bb, d, ix⟩, v, lv⟩ := q
        dsimp only at g1
        subst g1
        dsimp only at e1 e2
        refine W.widen (k := mc) (n := ms) (by omega) (by omega) (vx_ret ?_)
        exact W.vret hx hb (hrt.trans g3) (fun t ht hW => ⟨⟨_, rfl, rfl⟩, by rw [ht]; exact hS.1, hS.2.1.F ht⟩) hS.2.1.2.2 (xdec hk.1 rfl) hlk
      · obtain ⟨i, len, ⟨a, bb, d, ix⟩, v, lv⟩ := q
        dsimp only at g1 g2 g3
        subst g1
        rcases g2 with rfl | rfl | rfl
        · obtain ⟨c1, c3⟩ := xand (show (xlkB ix (.methodLink (xmN y).cls k arraycopyName) && Nat.ble 1 (xmF y) && Nat.ble 60 (xmO y)) = true from hk.2)
          obtain ⟨c1, c2⟩ := xand c1
          have g3 : xcopy st σ = some (rst, σ') := g3
          have n1 := xcopy_nt g3
          exact xcopy_W K C0 c1 (Nat.le_trans (Nat.le_of_ble_eq_true c2) hF) (Nat.le_trans (Nat.le_of_ble_eq_true c3) hO) (xdec hk.1 rfl) g3 hS (fun H' locs' hS' => ih y (pc + 3) ls rst σ' r g4 p e R s m args below meth c H' locs' cells slots A mc ms C0 hS' (by omega) (by omega) h1 h2 hF hO)
        · obtain ⟨c1, c3⟩ := xand (show (xlkB ix (.methodLink (xmN y).cls k Lib.Math.max.name) && Nat.ble 1 (xmF y) && Nat.ble 60 (xmO y)) = true from hk.2)
          obtain ⟨c1, c2⟩ := xand c1
          have c2 := Nat.le_of_ble_eq_true c2
          have c3 := Nat.le_of_ble_eq_true c3
          have fin := xr_mono _ _ _ _ _ _ _ g4
          obtain ⟨y1, x1, r1, rfl, w8, rfl, rfl⟩ := xnat_6 g3
          exact va_mmax hx hb (hml.trans hS.2.2.1.size.symm) hown (hT.hts args _ (xmem (xlk c1) rfl)) (hT.hts args _ (xmem' K.2.2.2.1.2.2.2.1 rfl)) (hT.hts args _ (xmem' K.2.2.2.1.2.2.2.2.2.1 rfl)) (hT.hts args _ (xmem' K.2.2.2.1.2.2.2.2.2.2.1 rfl)) (Nat.le_trans c2 hF) (by rw [xwords_tr]; omega) (by omega) (by omega) (xdec hk.1 rfl)
            (ih y (pc + 3) ls (.int (if x1 < y1 then y1 else x1) :: r1) _ r g4 p e R s m args below meth c H locs cells slots A mc ms C0 hS e1 e2 h1 h2 hF hO)
        · obtain ⟨c1, c3⟩ := xand (show (xlkB ix (.methodLink (xmN y).cls k Lib.Math.min.name) && Nat.ble 1 (xmF y) && Nat.ble 60 (xmO y)) = true from hk.2)
          obtain ⟨c1, c2⟩ := xand c1
          have c2 := Nat.le_of_ble_eq_true c2
          have c3 := Nat.le_of_ble_eq_true c3
          have fin := xr_mono _ _ _ _ _ _ _ g4
          obtain ⟨y1, x1, r1, rfl, w8, rfl, rfl⟩ := xnat_7 g3
          exact va_mmin hx hb (hml.trans hS.2.2.1.size.symm) hown (hT.hts args _ (xmem (xlk c1) rfl)) (hT.hts args _ (xmem' K.2.2.2.1.2.2.2.2.1 rfl)) (hT.hts args _ (xmem' K.2.2.2.1.2.2.2.2.2.1 rfl)) (hT.hts args _ (xmem' K.2.2.2.1.2.2.2.2.2.2.2 rfl)) (Nat.le_trans c2 hF) (by rw [xwords_tr]; omega) (by omega) (by omega) (xdec hk.1 rfl)
            (ih y (pc + 3) ls (.int (if y1 < x1 then y1 else x1) :: r1) _ r g4 p e R s m args below meth c H locs cells slots A mc ms C0 hS e1 e2 h1 h2 hF hO)
      · obtain ⟨i, len, ⟨a, bb, d, ix⟩, v, lv⟩ := q
        dsimp only at g1 g2
        subst g1; subst g2
        obtain ⟨c1, c3⟩ := xand (show (xlkB ix (.methodLink (xmN y).cls k objectInit) && Nat.ble 1 (xmF y) && Nat.ble 20 (xmO y)) = true from hk.2)
        obtain ⟨c1, c2⟩ := xand c1
        have c2 := Nat.le_of_ble_eq_true c2
        have c3 := Nat.le_of_ble_eq_true c3
        refine W.objInit hx hb hown (hT.hts args _ (xmem (xlk c1) rfl)) (hT.hts args _ (xmem' K.2.2.2.2.1 rfl)) (hT.hts args _ (xmem' K.2.2.2.2.2 rfl)) rfl (hS.2.2.1.size.trans hml.symm) rfl (xdec hk.1 rfl) (Nat.le_trans c2 hF) ?_ ?_
        · have : 2 * (F0 m pc A ((Value.ref a0 :: rst).map (xtr b B))).monitorRoom + ((rst.map (xtr b B)).map fun v => v.category).sum ≤ 8 := lv_room (by rw [xwords_tr]; exact g4)
          omega
        · exact ih y (pc + 3) ls rst σ r g5 p e R s m args below meth c H locs cells slots A mc ms C0 hS e1 e2 h1 h2 hF hO
      · obtain ⟨i, len, ⟨a, bb, d, ix⟩, v, lv⟩ := q
        dsimp only at g1 g5
        subst g1
        have hc := hk.2
        have hn : xnt r.2 = xnt σ + 1 ∧ xsl r.2 = xsl σ + 6 := by
          rw [g5]; unfold xnt xsl; dsimp only; omega
        unfold xokC at hc
        dsimp only at hc
        split at hc
        · cases hi
        · cases hi
        · cases hi
        · next k9 =>
          obtain ⟨c1, c2⟩ := xand (show (xlkB ix (.classLink (xmN y).cls k9 (xnm a)) && xthrB y pc a bb) = true from hc)
          exact xthrow K C0 hS (xdec hk.1 rfl) c1 c2 g4 g5 (by omega) (by omega) h1 h2 hF hO
        · cases hc
      · have gr := (xs1_grow g2).le
        have fin := xr_mono _ _ _ _ _ _ _ g3
        refine xs1_W (e := e) (R := R) (below := below) C0 hk.1 g1 g2 hS (by omega) (by omega) fun H' locs' A' cells' slots' z1 z2 hS' => ?_
        exact ih y pc' ls' st' σ' r g3 p e R s m args below meth c H' locs' cells' slots' A' mc ms C0 hS' (by omega) (by omega) h1 h2 hF hO
end XMAIN
