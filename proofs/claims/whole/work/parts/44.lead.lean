theorem app_let {g h μ ν : XMu} {F : Nat → Int32} (he : RE g h (zf μ F) ν) (hb : LB μ) {s c nx : Int32} (hs : 0 ≤ s.toInt) (hs2 : s.toInt ≤ 6) (hnx : (μ.2.1 12) s.toNatClampNeg = nx) (h0 : (μ.2.1 28 5).toInt < nx.toInt) (hc0 : 0 ≤ c.toInt) (hc : nx.toInt + c.toInt ≤ (μ.2.1 28 9).toInt + 1) : ∀ (r f : Nat) (k L : Int32) (d d' : Nat → Int32), ZE L d d' → 0 ≤ k.toInt → k.toInt + r = c.toInt → L.toInt + 3 * r ≤ 26 → r < f → ∃ L' d1 d1', ZE L' d1 d1' ∧ yC_sendAppend_b89_L f s c nx k (zμ μ L d) = yC_sendAppend_b155 s c nx (zμ μ L' d1) ∧ yM_sendEntries_b66_L f s c (nx + k) (zν ν L d') = xbv (yM_send (zν ν L' d1')) (fun m9 => some (.inl none, m9)) := by
  have b1 := hb.1
  have b4 := hb.2.2.2
  have qn : (ν.2.1 36) s.toNatClampNeg = nx := by
    have : (ν.2.1 36) = (μ.2.1 12) := he.next
    rw [this]; exact hnx
  have e0 : (nx + c).toInt = nx.toInt + c.toInt := i32_add (by omega) (by omega)
  have xi := xin_of (i := s) (n := 7) hs (by omega)
  intro r
  induction r with
  | zero =>
    intro f k L d d' z hk hr hL hf
    obtain ⟨f, rfl⟩ : ∃ f', f = f' + 1 := ⟨f - 1, by omega⟩
    have e1 : (nx + k).toInt = nx.toInt + k.toInt := i32_add (by omega) (by omega)
    unfold yC_sendAppend_b89_L yC_sendAppend_b89 yM_sendEntries_b66_L yM_sendEntries_b66
    rw [if_pos (by rw [Int32.le_iff_toInt_le]; omega), zν_36, qn, xgd_t xi, if_pos (by rw [Int32.le_iff_toInt_le]; omega)]
    exact ⟨L, d, d', z, rfl, rfl⟩
  | succ r ih =>
    intro f k L d d' z hk hr hL hf
    obtain ⟨f, rfl⟩ : ∃ f', f = f' + 1 := ⟨f - 1, by omega⟩
    have e1 : (nx + k).toInt = nx.toInt + k.toInt := i32_add (by omega) (by omega)
    have e5 := inc_i (n := k) (by omega)
    have z0 := z.1
    unfold yC_sendAppend_b89_L yC_sendAppend_b89 yM_sendEntries_b66_L yM_sendEntries_b66
    rw [if_neg (by rw [Int32.le_iff_toInt_le]; omega), zν_36, qn, xgd_t xi, if_neg (by rw [Int32.le_iff_toInt_le]; omega)]
    have hl := he.log (nx + k) (show (μ.2.1 28 5).toInt < _ by omega) (show _ ≤ (μ.2.1 28 9).toInt by omega)
    have l1 : (ν.2.1 33) (zr (nx + k)) = zt μ (nx + k) := by
      unfold zt
      rw [if_neg (fun hh => by rw [hh] at e1; omega)]
      exact hl.1
    have l2 : (ν.2.1 34) (zr (nx + k)) = (μ.2.1 30) (zs (μ.2.1 28 5) (nx + k)) := hl.2.1
    have l3 : (ν.2.1 35) (zr (nx + k)) = (μ.2.1 31) (zs (μ.2.1 28 5) (nx + k)) := hl.2.2
    unfold zr at l1 l2 l3
    have zi := zr_in (n := nx + k) (by omega)
    obtain ⟨d1, d1', a1, a2, z1⟩ := L_add (μ := μ) (ν := ν) z (by omega) (zt μ (nx + k))
    have i1 := inc_i (n := L) (by omega)
    obtain ⟨d2, d2', a3, a4, z2⟩ := L_add (μ := μ) (ν := ν) z1 (by omega) ((μ.2.1 30) (zs (μ.2.1 28 5) (nx + k)))
    have i2 := inc_i (n := L + 1) (by omega)
    obtain ⟨d3, d3', a5, a6, z3⟩ := L_add (μ := μ) (ν := ν) z2 (by omega) ((μ.2.1 31) (zs (μ.2.1 28 5) (nx + k)))
    have i3 := inc_i (n := L + 1 + 1) (by omega)
    rw [termAt_c (μ := zμ μ L d) hb (show (μ.2.1 28 5).toInt ≤ _ by omega) (show _ ≤ (μ.2.1 28 9).toInt by omega), xbi_s, show zt (zμ μ L d) (nx + k) = zt μ (nx + k) from rfl, a1, xbv_s, kindAt_c (μ := zμ μ (L + 1) d1) hb (show (μ.2.1 28 5).toInt < _ by omega) (show _ ≤ (μ.2.1 28 9).toInt by omega), xbi_s, zμ_30, zμ_28, a3, xbv_s, valueAt_c (μ := zμ μ (L + 1 + 1) d2) hb (show (μ.2.1 28 5).toInt < _ by omega) (show _ ≤ (μ.2.1 28 9).toInt by omega), xbi_s, zμ_31, zμ_28, a5, xbv_s]
    rw [xgd_t zi, zν_33, l1, a2, xbv_s, xgd_t zi, zν_34, l2, a4, xbv_s, xgd_t zi, zν_35, l3, a6, xbv_s, Int32.add_assoc nx k 1]
    exact ih f (k + 1) (L + 1 + 1 + 1) d3 d3' z3 (by omega) (by omega) (by omega) (by omega)
theorem A_append {g h μ ν : XMu} {n : Nat} {F : Nat → Int32} (he : RE g h (zf μ F) ν) (hi : RI n (zf μ F)) (hn : n ≤ 1000000) {s c nx : Int32} (hs : 0 ≤ s.toInt) (hs2 : s.toInt ≤ 6) (hnx : (μ.2.1 12) s.toNatClampNeg = nx) (h0 : (μ.2.1 28 5).toInt < nx.toInt) (hc0 : 0 ≤ c.toInt) (hc6 : c.toInt ≤ 6) (hc : nx.toInt + c.toInt ≤ (μ.2.1 28 9).toInt + 1) : ∃ X Y Z, yC_sendAppend s c μ = some (.inl none, ((zM μ X).1, xuI (zM μ X).2.1 12 s.toNatClampNeg (nx + c), (zM μ X).2.2)) ∧ yM_sendEntries s c ν = some (.inl none, zN ν Y Z) ∧ RE g h (zf (zM μ X) F) (zN ν Y Z) ∧ RI (n + 1) (zf (zM μ X) F) := by
  have hb : LB μ := hi.LB hn
  have b1 := hb.1
  have b4 := hb.2.2.2
  have xi := xin_of (i := s) (n := 7) hs (by omega)
  have qn : (ν.2.1 36) s.toNatClampNeg = nx := by
    have : (ν.2.1 36) = (μ.2.1 12) := he.next
    rw [this]; exact hnx
  have e1 : (nx - 1).toInt = nx.toInt - 1 := by rw [i32_sub (by rw [il_1]; omega) (by rw [il_1]; omega), il_1]
  have qt : (ν.2.1 32 4) = (μ.2.1 28 3) := he.term
  have qc : (ν.2.1 32 17) = (μ.2.1 0 11) := he.commit
  have qr : (ν.2.1 32 26) = (μ.2.1 11 9) := he.round
  unfold yC_sendAppend yM_sendEntries
  obtain ⟨d, d', p1, p2, z⟩ := L_begin μ ν s 5 (μ.2.1 28 3)
  rw [hnx, qt, xgd_t xi, p1, p2, xbv_s, xbv_s, zν_36, qn, xgd_t xi]
  obtain ⟨d1, d1', a1, a2, z1⟩ := L_add (μ := μ) (ν := ν) z (by decide) (nx - 1)
  rw [a1, a2, xbv_s, xbv_s, zν_36, qn, xgd_t xi, termAt_c (μ := zμ μ (3 + 1) d1) hb (show (μ.2.1 28 5).toInt ≤ _ by omega) (show _ ≤ (μ.2.1 28 9).toInt by omega), xbi_s, show zt (zμ μ (3 + 1) d1) (nx - 1) = zt μ (nx - 1) from rfl]
  have tm : yM_termAt (nx - 1) (zν ν (3 + 1) d1') = some (.inl (some (.int (zt μ (nx - 1)))), zν ν (3 + 1) d1') := termAt_m (RE_z he (d := d1)) (μ := zμ (zf μ F) (3 + 1) d1) hb (show (μ.2.1 28 5).toInt ≤ _ by omega) (show _ ≤ (μ.2.1 28 9).toInt by omega)
  rw [tm, xbi_s]
  obtain ⟨d2, d2', a3, a4, z2⟩ := L_add (μ := μ) (ν := ν) z1 (by decide) (zt μ (nx - 1))
  obtain ⟨d3, d3', a5, a6, z3⟩ := L_add (μ := μ) (ν := ν) z2 (by decide) (μ.2.1 0 11)
  obtain ⟨d4, d4', a7, a8, z4⟩ := L_add (μ := μ) (ν := ν) z3 (by decide) (μ.2.1 11 9)
  obtain ⟨d5, d5', a9, a10, z5⟩ := L_add (μ := μ) (ν := ν) z4 (by decide) c
  rw [a3, a4, xbv_s, xbv_s, zμ_0, zν_j17, qc, a5, a6, xbv_s, xbv_s, zμ_11, zν_j26, qr, a7, a8, xbv_s, xbv_s, a9, a10, xbv_s, xbv_s, xgd_t xi, zν_36, qn]
  obtain ⟨L', e, e', z6, g1, g2⟩ := app_let he hb hs hs2 hnx h0 hc0 hc c.toInt.toNat 1000 0 _ d5 d5' z5 (by decide) (by rw [il_0]; omega) (by rw [show ((3 + 1 + 1 + 1 + 1 + 1 : Int32)).toInt = 8 from rfl]; omega) (by omega)
  rw [Int32.add_zero] at g2
  rw [g1, g2]
  unfold yC_sendAppend_b155
  obtain ⟨X, Y, Z, w1, w2, w3, w4⟩ := L_postF he hi hn z6
  rw [zμ_28, w1, w2, xbv_s, xbv_s, xgd_t xi]
  exact ⟨X, Y, Z, rfl, rfl, w3, w4⟩
theorem P_piece {g h μ ν : XMu} {n : Nat} (he : RE g h μ ν) (hi : RI n μ) (hn : n ≤ 1000000) {s : Int32} (hs : 0 ≤ s.toInt) (hs2 : s.toInt ≤ 6) : Pw g h (n + 1) (Keep μ) (yC_sendPiece s μ) (yM_sendPiece s (ν.1, xuI ν.2.1 38 s.toNatClampNeg 1, ν.2.2)) := by
  have xi := xin_of (i := s) (n := 7) hs (by omega)
  have t1 := tn_of hs
  have he1 : RE g h (μ.1, xuI μ.2.1 14 s.toNatClampNeg 1, μ.2.2) (ν.1, xuI ν.2.1 38 s.toNatClampNeg 1, ν.2.2) := (RE.mk (ft := he.ft) (fg := fun c hc => by first | exact he.fg c hc | (have hh := he.fg c hc; (try unfold zq at hh); (try unfold zd at hh); (try unfold zf at hh); (try unfold zo at hh); (try unfold zo); (try unfold zh at hh); (try unfold zh); (try unfold zq); (try unfold zd); (try unfold zf); (try dsimp only at hh); (try dsimp only); (repeat (first | rw [xuI_o (by omega)] at hh | rw [xuL_o (by omega)] at hh | rw [va_up_o (by omega)] at hh)); (repeat (first | rw [xuI_o (by omega)] | rw [xuL_o (by omega)] | rw [va_up_o (by omega)])); exact hh)) (fgl := fun c hc => by first | exact he.fgl c hc | (have hh := he.fgl c hc; (try unfold zq at hh); (try unfold zd at hh); (try unfold zf at hh); (try unfold zo at hh); (try unfold zo); (try unfold zh at hh); (try unfold zh); (try unfold zq); (try unfold zd); (try unfold zf); (try dsimp only at hh); (try dsimp only); (repeat (first | rw [xuI_o (by omega)] at hh | rw [xuL_o (by omega)] at hh | rw [va_up_o (by omega)] at hh)); (repeat (first | rw [xuI_o (by omega)] | rw [xuL_o (by omega)] | rw [va_up_o (by omega)])); exact hh)) (ht := he.ht) (hg := fun c hc => by first | exact he.hg c hc | (have hh := he.hg c hc; (try unfold zq at hh); (try unfold zd at hh); (try unfold zf at hh); (try unfold zo at hh); (try unfold zo); (try unfold zh at hh); (try unfold zh); (try unfold zq); (try unfold zd); (try unfold zf); (try dsimp only at hh); (try dsimp only); (repeat (first | rw [xuI_o (by omega)] at hh | rw [xuL_o (by omega)] at hh | rw [va_up_o (by omega)] at hh)); (repeat (first | rw [xuI_o (by omega)] | rw [xuL_o (by omega)] | rw [va_up_o (by omega)])); exact hh)) (hgl := fun c hc => by first | exact he.hgl c hc | (have hh := he.hgl c hc; (try unfold zq at hh); (try unfold zd at hh); (try unfold zf at hh); (try unfold zo at hh); (try unfold zo); (try unfold zh at hh); (try unfold zh); (try unfold zq); (try unfold zd); (try unfold zf); (try dsimp only at hh); (try dsimp only); (repeat (first | rw [xuI_o (by omega)] at hh | rw [xuL_o (by omega)] at hh | rw [va_up_o (by omega)] at hh)); (repeat (first | rw [xuI_o (by omega)] | rw [xuL_o (by omega)] | rw [va_up_o (by omega)])); exact hh)) (thr := he.thr) (row := he.row) (itself := he.itself) (now := he.now) (term := he.term) (voted := he.voted) (base := he.base) (last := he.last) (baseTerm := he.baseTerm) (baseCode := he.baseCode) (snapshot := he.snapshot) (dirty := he.dirty) (role := he.role) (leader := he.leader) (commit := he.commit) (applied := he.applied) (synced := he.synced) (heard := he.heard) (alarm := he.alarm) (votes := he.votes) (handing := he.handing) (handed := he.handed) (first := he.first) (round := he.round) (assembly := he.assembly) (described := he.described) (toldBase := he.toldBase) (toldTerm := he.toldTerm) (toldCode := he.toldCode) (toldSize := he.toldSize) (told := he.told) (waits := he.waits) (went := he.went) (done := he.done) (calls := he.calls) (next := he.next) (mtch := he.mtch) (flying := congrArg (fun F => upd F s.toNatClampNeg 1) he.flying) (offset := he.offset) (ack := he.ack) (seen := he.seen) (probing := he.probing) (answered := he.answered) (toldTerms := he.toldTerms) (toldKinds := he.toldKinds) (toldValues := he.toldValues) (doneNumbers := he.doneNumbers) (doneValues := he.doneValues) (callState := he.callState) (callNumber := he.callNumber) (got := he.got) (log := he.log) (kept := he.kept) (wait := he.wait) (cls := he.cls))
  have hi1 : RI n (μ.1, xuI μ.2.1 14 s.toNatClampNeg 1, μ.2.2) := (RI.mk (itself := hi.itself) (role := hi.role) (base := hi.base) (ba := hi.ba) (ac := hi.ac) (cl := hi.cl) (lb := hi.lb) (last := hi.last) (syn := hi.syn) (dirty := hi.dirty) (desc := hi.desc) (now := hi.now) (term := hi.term) (went := hi.went) (waits := hi.waits) (done := hi.done) (calls := hi.calls) (told := hi.told) (round := hi.round) (hand := hi.hand) (heard := hi.heard) (vote := hi.vote) (lead := fun r j hj => by
    have := hi.lead r j hj
    refine ⟨this.1, this.2.1, ?_, this.2.2.2⟩
    show 0 ≤ (upd (μ.2.1 14) s.toNatClampNeg 1 j).toInt ∧ (upd (μ.2.1 14) s.toNatClampNeg 1 j).toInt ≤ 4
    by_cases hj2 : j = s.toNatClampNeg
    · rw [hj2, upd_s, il_1]; omega
    · rw [upd_o hj2]; exact this.2.2.1) (quiet := hi.quiet) (cmd := hi.cmd) (tt := hi.tt) (tb := hi.tb) (got := hi.got) (mem := hi.mem))
  unfold yC_sendPiece yM_sendPiece
  have qo : (ν.1, xuI ν.2.1 38 s.toNatClampNeg 1, ν.2.2).2.1 39 s.toNatClampNeg = (μ.2.1 16) s.toNatClampNeg := congrFun he.offset _
  have qz : (ν.1, xuI ν.2.1 38 s.toNatClampNeg 1, ν.2.2).2.1 32 13 = (μ.2.1 28 8) := he.snapshot
  rw [xgd_t xi, xgd_t xi, xgd_t xi, xgd_t xi, qo, qz]
  have key : ∀ v : Int32, Pw g h (n + 1) (Keep μ) (xbv (yMa_begin s (7 : Int32) (μ.2.1 28 3) (μ.1, (xuI μ.2.1 14 s.toNatClampNeg (1 : Int32)), μ.2.2)) (fun m1 => xbv (yMa_add (m1.2.1 28 5) m1) (fun m2 => xbv (yMa_add (m2.2.1 28 6) m2) (fun m3 => xbv (yMa_add (m3.2.1 28 7) m3) (fun m4 => xbv (yMa_add (m4.2.1 28 8) m4) (fun m5 => xbv (yMa_add ((μ.2.1 16) s.toNatClampNeg) m5) (fun m6 => xbv (yMa_add v m6) (fun m7 => xbv (yMa_add (m7.2.1 11 9) m7) (fun m8 => xbv (yMa_post (m8.2.1 28 11) m8) (fun m9 => some (.inl none, m9))))))))))) (yM_sendPiece_b34 s v (ν.1, xuI ν.2.1 38 s.toNatClampNeg 1, ν.2.2)) := by
    intro v
    unfold yM_sendPiece_b34
    have qt : (ν.1, xuI ν.2.1 38 s.toNatClampNeg 1, ν.2.2).2.1 32 4 = (μ.2.1 28 3) := he.term
    rw [qt]
    generalize hM : ((μ.1, xuI μ.2.1 14 s.toNatClampNeg 1, μ.2.2) : XMu) = M1 at *
    generalize hN : ((ν.1, xuI ν.2.1 38 s.toNatClampNeg 1, ν.2.2) : XMu) = N1 at *
    obtain ⟨d, d', p1, p2, z⟩ := L_begin M1 N1 s 7 (μ.2.1 28 3)
    obtain ⟨d1, d1', a1, a2, z1⟩ := L_add (μ := M1) (ν := N1) z (by decide) (M1.2.1 28 5)
    obtain ⟨d2, d2', a3, a4, z2⟩ := L_add (μ := M1) (ν := N1) z1 (by decide) (M1.2.1 28 6)
    obtain ⟨d3, d3', a5, a6, z3⟩ := L_add (μ := M1) (ν := N1) z2 (by decide) (M1.2.1 28 7)
    obtain ⟨d4, d4', a7, a8, z4⟩ := L_add (μ := M1) (ν := N1) z3 (by decide) (M1.2.1 28 8)
    obtain ⟨d5, d5', a9, a10, z5⟩ := L_add (μ := M1) (ν := N1) z4 (by decide) ((μ.2.1 16) s.toNatClampNeg)
    obtain ⟨d6, d6', a11, a12, z6⟩ := L_add (μ := M1) (ν := N1) z5 (by decide) v
    obtain ⟨d7, d7', a13, a14, z7⟩ := L_add (μ := M1) (ν := N1) z6 (by decide) (M1.2.1 11 9)
    rw [p1, p2, xbv_s, xbv_s, zμ_28, zν_j9, he1.base, a1, a2, xbv_s, xbv_s, zμ_28, zν_j11, he1.baseTerm, a3, a4, xbv_s, xbv_s, zμ_28, zν_j12, he1.baseCode, a5, a6, xbv_s, xbv_s, zμ_28, zν_j13, he1.snapshot, a7, a8, xbv_s, xbv_s, xgd_t xi, zν_39, qo, a9, a10, xbv_s, xbv_s, a11, a12, xbv_s, xbv_s, zμ_11, zν_j26, he1.round, a13, a14, xbv_s, xbv_s, zμ_28]
    obtain ⟨X, Y, Z, w1, w2, w3, w4⟩ := L_post he1 hi1 hn z7
    rw [w1, w2, xbv_s, xbv_s]
    refine Pw.ret w3 w4 ?_
    rw [← hM]
    exact ⟨rfl, rfl, rfl, rfl, rfl, rfl, rfl⟩
  have fin : ∀ v : Int32, (if (μ.2.1 28 8) - (μ.2.1 16) s.toNatClampNeg < 200 then (μ.2.1 28 8) - (μ.2.1 16) s.toNatClampNeg else 200) = v → Pw g h (n + 1) (Keep μ) (xbv (yMa_begin s (7 : Int32) (μ.2.1 28 3) (μ.1, (xuI μ.2.1 14 s.toNatClampNeg (1 : Int32)), μ.2.2)) (fun m1 => xbv (yMa_add (m1.2.1 28 5) m1) (fun m2 => xbv (yMa_add (m2.2.1 28 6) m2) (fun m3 => xbv (yMa_add (m3.2.1 28 7) m3) (fun m4 => xbv (yMa_add (m4.2.1 28 8) m4) (fun m5 => xbv (yMa_add ((μ.2.1 16) s.toNatClampNeg) m5) (fun m6 => xbv (yMa_add (if ((m6.2.1 28 8) - ((μ.2.1 16) s.toNatClampNeg)) < (200 : Int32) then ((m6.2.1 28 8) - ((μ.2.1 16) s.toNatClampNeg)) else (200 : Int32)) m6) (fun m7 => xbv (yMa_add (m7.2.1 11 9) m7) (fun m8 => xbv (yMa_post (m8.2.1 28 11) m8) (fun m9 => some (.inl none, m9))))))))))) (yM_sendPiece_b34 s v (ν.1, xuI ν.2.1 38 s.toNatClampNeg 1, ν.2.2)) := by
    intro v hv
    have k := key v
    obtain ⟨μ', ν', k1, k2, k3⟩ := k
    refine ⟨μ', ν', ?_, k2, k3⟩
    rw [← k1]
    generalize hM : ((μ.1, xuI μ.2.1 14 s.toNatClampNeg 1, μ.2.2) : XMu) = M1
    have hms : (M1.2.1 28 8) = (μ.2.1 28 8) := by rw [← hM]; rfl
    obtain ⟨d, d', p1, p2, z⟩ := L_begin M1 M1 s 7 (μ.2.1 28 3)
    obtain ⟨d1, d1', a1, a2, z1⟩ := L_add (μ := M1) (ν := M1) z (by decide) (M1.2.1 28 5)
    obtain ⟨d2, d2', a3, a4, z2⟩ := L_add (μ := M1) (ν := M1) z1 (by decide) (M1.2.1 28 6)
    obtain ⟨d3, d3', a5, a6, z3⟩ := L_add (μ := M1) (ν := M1) z2 (by decide) (M1.2.1 28 7)
    obtain ⟨d4, d4', a7, a8, z4⟩ := L_add (μ := M1) (ν := M1) z3 (by decide) (M1.2.1 28 8)
    obtain ⟨d5, d5', a9, a10, z5⟩ := L_add (μ := M1) (ν := M1) z4 (by decide) ((μ.2.1 16) s.toNatClampNeg)
    rw [p1, xbv_s, xbv_s, zμ_28, a1, xbv_s, xbv_s, zμ_28, a3, xbv_s, xbv_s, zμ_28, a5, xbv_s, xbv_s, zμ_28, a7, xbv_s, xbv_s, a9, xbv_s, xbv_s, zμ_28, hms, hv]
  by_cases hle : (μ.2.1 28 8) - (μ.2.1 16) s.toNatClampNeg ≤ 200
  · rw [if_pos hle]
    refine fin _ ?_
    by_cases h2 : (μ.2.1 28 8) - (μ.2.1 16) s.toNatClampNeg < 200
    · rw [if_pos h2]
    · rw [if_neg h2]
      rw [Int32.lt_iff_toInt_lt] at h2
      rw [Int32.le_iff_toInt_le] at hle
      exact inj_i (by omega)
  · rw [if_neg hle]
    refine fin _ ?_
    rw [if_neg]
    rw [Int32.le_iff_toInt_le] at hle
    rw [Int32.lt_iff_toInt_lt]
    omega
theorem P_send0 {g h μ ν : XMu} {n : Nat} (he : RE g h μ ν) (hi : RI n μ) (hr : (μ.2.1 0 9) = 3) (hn : n ≤ 1000000) {s : Int32} (hs : 0 ≤ s.toInt) (hs2 : s.toInt ≤ 6) (h0 : (μ.2.1 28 5).toInt < ((μ.2.1 12) s.toNatClampNeg).toInt) (ab sent : Int32) : Pw g h (n + 1) (Keep μ) (yC_sendTo_b153 s ab sent μ) (yM_sendTo_b137 s ab sent ν) := by
  unfold yC_sendTo_b153 yM_sendTo_b137
  have hi1 := hi.mono (Nat.le_add_right n 1)
  by_cases h1 : ab = 0
  · rw [if_pos h1, if_pos h1]
    split <;> exact Pw.ret he hi1 Keep.refl
  · rw [if_neg h1, if_neg h1]
    by_cases h2 : sent = 0
    · rw [if_neg (not_not_intro h2), if_neg (not_not_intro h2)]
      have t1 := tn_of hs
      have hz := hi.lead hr s.toNatClampNeg (by omega)
      have e : zf μ (μ.2.1 14) = μ := zf_id rfl
      obtain ⟨X, Y, Z, w1, w2, w3, w4⟩ := A_append (μ := μ) (ν := ν) (F := μ.2.1 14) (n := n) (g := g) (h := h) (by rw [e]; exact he) (by rw [e]; exact hi) hn hs hs2 (c := 0) rfl h0 (by decide) (by decide) (by rw [il_0]; omega)
      rw [w1, w2, xbv_s, xbv_s]
      have e2 : zf (zM μ X) (μ.2.1 14) = zM μ X := zf_id rfl
      rw [e2] at w3 w4
      have en : xuI (zM μ X).2.1 12 s.toNatClampNeg ((μ.2.1 12) s.toNatClampNeg + 0) = (zM μ X).2.1 := by
        rw [Int32.add_zero]
        unfold xuI
        rw [show upd ((zM μ X).2.1 12) s.toNatClampNeg ((μ.2.1 12) s.toNatClampNeg) = (zM μ X).2.1 12 from upd_id, va_up_id]
      rw [en]
      exact Pw.ret w3 w4 ⟨rfl, rfl, rfl, rfl, rfl, rfl, rfl⟩
    · rw [if_pos h2, if_pos h2]
      exact Pw.ret he hi1 Keep.refl
theorem send_loop {g h : XMu} {s : Int32} (hs : 0 ≤ s.toInt) (hs2 : s.toInt ≤ 6) (ab lim : Int32) : ∀ (r f : Nat) (k sent : Int32) (n : Nat) (μ ν : XMu), RE g h μ ν → RI n μ → (μ.2.1 0 9) = 3 → n + r + 1 ≤ 1000000 → 0 ≤ k.toInt → k.toInt + r = 4 → r < f → (μ.2.1 28 5).toInt < ((μ.2.1 12) s.toNatClampNeg).toInt → k.toInt ≤ ((μ.2.1 14) s.toNatClampNeg).toInt → lim = (if (μ.2.1 15) s.toNatClampNeg = 0 then 4 else 1) → Pw g h (n + r + 1) (Keep μ) (yC_sendTo_b61_L f s ab lim sent k μ) (yM_sendTo_b37_L f s ab sent ν) := by
  have xi := xin_of (i := s) (n := 7) hs (by omega)
  have t1 := tn_of hs
  intro r
  induction r with
  | zero =>
    intro f k sent n μ ν he hi hr hn hk hkr hf h0 hfl hlim
    obtain ⟨f, rfl⟩ : ∃ f', f = f' + 1 := ⟨f - 1, by omega⟩
    have fin := P_send0 he hi hr (by omega) hs hs2 h0 ab sent
    have hz := hi.lead hr s.toNatClampNeg (by omega)
    unfold yC_sendTo_b61_L yC_sendTo_b61 yM_sendTo_b37_L yM_sendTo_b37 yM_sendTo_b70
    rw [if_pos (by rw [Int32.le_iff_toInt_le, il_4]; omega), xgd_t xi, xgd_t xi, xgd_t xi, he.next, he.last, he.flying, he.probing]
    have c4 : (4 : Int32) ≤ (μ.2.1 14) s.toNatClampNeg := by rw [Int32.le_iff_toInt_le, il_4]; omega
    have c1 : (1 : Int32) ≤ (μ.2.1 14) s.toNatClampNeg := by rw [Int32.le_iff_toInt_le, il_1]; omega
    rw [if_pos c4, if_pos c1]
    split
    · exact fin
    · split <;> exact fin
  | succ r ih =>
    intro f k sent n μ ν he hi hr hn hk hkr hf h0 hfl hlim
    obtain ⟨f, rfl⟩ : ∃ f', f = f' + 1 := ⟨f - 1, by omega⟩
    have fin := (P_send0 he hi hr (by omega) hs hs2 h0 ab sent).mono (B := Keep μ) (show n + 1 ≤ n + (r + 1) + 1 by omega) (fun _ h => h)
    have hz := hi.lead hr s.toNatClampNeg (by omega)
    have b4 := (hi.LB (by omega)).2.2.2
    have b0 := hi.base
    have e5 := inc_i (n := k) (by omega)
    unfold yC_sendTo_b61_L yC_sendTo_b61 yM_sendTo_b37_L yM_sendTo_b37
    rw [if_neg (by rw [Int32.le_iff_toInt_le, il_4]; omega), xgd_t xi, xgd_t xi, xgd_t xi, xgd_t xi, xgd_t xi, xgd_t xi, xgd_t xi, xgd_t xi, he.next, he.last, he.flying, he.probing]
    have em : (if (μ.2.1 15) s.toNatClampNeg = 0 then yM_sendTo_b70 (yM_sendTo_b37_L f) s ab sent ((μ.2.1 14) s.toNatClampNeg) 4 ν else yM_sendTo_b70 (yM_sendTo_b37_L f) s ab sent ((μ.2.1 14) s.toNatClampNeg) 1 ν) = yM_sendTo_b70 (yM_sendTo_b37_L f) s ab sent ((μ.2.1 14) s.toNatClampNeg) lim ν := by
      rw [hlim]
      by_cases hp : (μ.2.1 15) s.toNatClampNeg = 0
      · rw [if_pos hp, if_pos hp]
      · rw [if_neg hp, if_neg hp]
    have hl4 : lim.toInt ≤ 4 := by
      rw [hlim]
      split
      · exact Int.le_refl _
      · decide
    rw [em]
    by_cases hc : (μ.2.1 28 9) < (μ.2.1 12) s.toNatClampNeg
    · rw [if_pos hc, if_pos hc]
      exact fin
    · rw [if_neg hc, if_neg hc]
      unfold yM_sendTo_b70
      by_cases hq : (μ.2.1 14) s.toNatClampNeg < lim
      · have hq' : ¬ lim ≤ (μ.2.1 14) s.toNatClampNeg := by
          rw [Int32.lt_iff_toInt_lt] at hq
          rw [Int32.le_iff_toInt_le]; omega
        rw [if_pos hq, if_neg hq', xgd_t xi, he.next, he.last]
        rw [Int32.lt_iff_toInt_lt] at hq hc
        have m1 : ((μ.2.1 28 9) - (μ.2.1 12) s.toNatClampNeg).toInt = (μ.2.1 28 9).toInt - ((μ.2.1 12) s.toNatClampNeg).toInt := i32_sub (by omega) (by omega)
        have m2 : ((μ.2.1 28 9) - (μ.2.1 12) s.toNatClampNeg + 1).toInt = (μ.2.1 28 9).toInt - ((μ.2.1 12) s.toNatClampNeg).toInt + 1 := by rw [inc_i (by omega), m1]
        have body : ∀ c : Int32, 0 ≤ c.toInt → c.toInt ≤ 6 → ((μ.2.1 12) s.toNatClampNeg).toInt + c.toInt ≤ (μ.2.1 28 9).toInt + 1 → Pw g h (n + (r + 1) + 1) (Keep μ) (xbv (yC_sendAppend s c (μ.1, xuI μ.2.1 14 s.toNatClampNeg ((μ.2.1 14) s.toNatClampNeg + 1), μ.2.2)) (fun m2 => yC_sendTo_b61_L f s ab lim 1 (k + 1) m2)) (yM_sendTo_b102 (yM_sendTo_b37_L f) s ab c ν) := by
          intro c q1 q2 q3
          have ez : zf (μ.1, xuI μ.2.1 14 s.toNatClampNeg ((μ.2.1 14) s.toNatClampNeg + 1), μ.2.2) (μ.2.1 14) = μ := by
            unfold zf
            dsimp only
            rw [va_up_xu, va_up_id]
          obtain ⟨X, Y, Z, w1, w2, w3, w4⟩ := A_append (μ := (μ.1, xuI μ.2.1 14 s.toNatClampNeg ((μ.2.1 14) s.toNatClampNeg + 1), μ.2.2)) (ν := ν) (F := μ.2.1 14) (n := n) (g := g) (h := h) (by rw [ez]; exact he) (by rw [ez]; exact hi) (by omega) hs hs2 (c := c) (nx := (μ.2.1 12) s.toNatClampNeg) rfl h0 q1 q2 q3
          unfold yM_sendTo_b102
          rw [w1, w2, xbv_s, xbv_s, xgd_t xi, xgd_t xi, xgd_t xi, xgd_t xi]
          have f1 := inc_i (n := (μ.2.1 14) s.toNatClampNeg) (by omega)
          have f2 : ((μ.2.1 12) s.toNatClampNeg + c).toInt = ((μ.2.1 12) s.toNatClampNeg).toInt + c.toInt := i32_add (by omega) (by omega)
          refine Pw.mono (n := n + 1 + r + 1) (A := fun m => Keep ((zM (μ.1, xuI μ.2.1 14 s.toNatClampNeg ((μ.2.1 14) s.toNatClampNeg + 1), μ.2.2) X).1, xuI (zM (μ.1, xuI μ.2.1 14 s.toNatClampNeg ((μ.2.1 14) s.toNatClampNeg + 1), μ.2.2) X).2.1 12 s.toNatClampNeg ((μ.2.1 12) s.toNatClampNeg + c), (zM (μ.1, xuI μ.2.1 14 s.toNatClampNeg ((μ.2.1 14) s.toNatClampNeg + 1), μ.2.2) X).2.2) m) (ih f (k + 1) 1 (n + 1) _ _ ((RE.mk (ft := w3.ft) (fg := fun c hc => by first | exact w3.fg c hc | (have hh := w3.fg c hc; (try unfold zq at hh); (try unfold zd at hh); (try unfold zf at hh); (try unfold zo at hh); (try unfold zo); (try unfold zh at hh); (try unfold zh); (try unfold zq); (try unfold zd); (try unfold zf); (try dsimp only at hh); (try dsimp only); (repeat (first | rw [xuI_o (by omega)] at hh | rw [xuL_o (by omega)] at hh | rw [va_up_o (by omega)] at hh)); (repeat (first | rw [xuI_o (by omega)] | rw [xuL_o (by omega)] | rw [va_up_o (by omega)])); exact hh)) (fgl := fun c hc => by first | exact w3.fgl c hc | (have hh := w3.fgl c hc; (try unfold zq at hh); (try unfold zd at hh); (try unfold zf at hh); (try unfold zo at hh); (try unfold zo); (try unfold zh at hh); (try unfold zh); (try unfold zq); (try unfold zd); (try unfold zf); (try dsimp only at hh); (try dsimp only); (repeat (first | rw [xuI_o (by omega)] at hh | rw [xuL_o (by omega)] at hh | rw [va_up_o (by omega)] at hh)); (repeat (first | rw [xuI_o (by omega)] | rw [xuL_o (by omega)] | rw [va_up_o (by omega)])); exact hh)) (ht := w3.ht) (hg := fun c hc => by first | exact w3.hg c hc | (have hh := w3.hg c hc; (try unfold zq at hh); (try unfold zd at hh); (try unfold zf at hh); (try unfold zo at hh); (try unfold zo); (try unfold zh at hh); (try unfold zh); (try unfold zq); (try unfold zd); (try unfold zf); (try dsimp only at hh); (try dsimp only); (repeat (first | rw [xuI_o (by omega)] at hh | rw [xuL_o (by omega)] at hh | rw [va_up_o (by omega)] at hh)); (repeat (first | rw [xuI_o (by omega)] | rw [xuL_o (by omega)] | rw [va_up_o (by omega)])); exact hh)) (hgl := fun c hc => by first | exact w3.hgl c hc | (have hh := w3.hgl c hc; (try unfold zq at hh); (try unfold zd at hh); (try unfold zf at hh); (try unfold zo at hh); (try unfold zo); (try unfold zh at hh); (try unfold zh); (try unfold zq); (try unfold zd); (try unfold zf); (try dsimp only at hh); (try dsimp only); (repeat (first | rw [xuI_o (by omega)] at hh | rw [xuL_o (by omega)] at hh | rw [va_up_o (by omega)] at hh)); (repeat (first | rw [xuI_o (by omega)] | rw [xuL_o (by omega)] | rw [va_up_o (by omega)])); exact hh)) (thr := w3.thr) (row := w3.row) (itself := w3.itself) (now := w3.now) (term := w3.term) (voted := w3.voted) (base := w3.base) (last := w3.last) (baseTerm := w3.baseTerm) (baseCode := w3.baseCode) (snapshot := w3.snapshot) (dirty := w3.dirty) (role := w3.role) (leader := w3.leader) (commit := w3.commit) (applied := w3.applied) (synced := w3.synced) (heard := w3.heard) (alarm := w3.alarm) (votes := w3.votes) (handing := w3.handing) (handed := w3.handed) (first := w3.first) (round := w3.round) (assembly := w3.assembly) (described := w3.described) (toldBase := w3.toldBase) (toldTerm := w3.toldTerm) (toldCode := w3.toldCode) (toldSize := w3.toldSize) (told := w3.told) (waits := w3.waits) (went := w3.went) (done := w3.done) (calls := w3.calls) (next := ?_) (mtch := w3.mtch) (flying := ?_) (offset := w3.offset) (ack := w3.ack) (seen := w3.seen) (probing := w3.probing) (answered := w3.answered) (toldTerms := w3.toldTerms) (toldKinds := w3.toldKinds) (toldValues := w3.toldValues) (doneNumbers := w3.doneNumbers) (doneValues := w3.doneValues) (callState := w3.callState) (callNumber := w3.callNumber) (got := w3.got) (log := w3.log) (kept := w3.kept) (wait := w3.wait) (cls := w3.cls))) ((RI.mk (itself := w4.itself) (role := w4.role) (base := w4.base) (ba := w4.ba) (ac := w4.ac) (cl := w4.cl) (lb := w4.lb) (last := w4.last) (syn := w4.syn) (dirty := w4.dirty) (desc := w4.desc) (now := w4.now) (term := w4.term) (went := w4.went) (waits := w4.waits) (done := w4.done) (calls := w4.calls) (told := w4.told) (round := w4.round) (hand := w4.hand) (heard := w4.heard) (vote := w4.vote) (lead := fun _ j hj => ?_) (quiet := w4.quiet) (cmd := w4.cmd) (tt := w4.tt) (tb := w4.tb) (got := w4.got) (mem := w4.mem))) hr (by omega) (by omega) (by omega) (by omega) ?_ ?_ hlim) (by omega) (fun μ' hk => Keep.trans ⟨rfl, rfl, rfl, rfl, rfl, rfl, rfl⟩ hk)
          · show upd (ν.2.1 36) s.toNatClampNeg ((ν.2.1 36) s.toNatClampNeg + c) = upd (μ.2.1 12) s.toNatClampNeg ((μ.2.1 12) s.toNatClampNeg + c)
            rw [he.next]
          · show upd (ν.2.1 38) s.toNatClampNeg ((ν.2.1 38) s.toNatClampNeg + 1) = upd (μ.2.1 14) s.toNatClampNeg ((μ.2.1 14) s.toNatClampNeg + 1)
            rw [he.flying]
          · have hzj := hi.lead hr j hj
            show (1 ≤ (upd (μ.2.1 12) s.toNatClampNeg ((μ.2.1 12) s.toNatClampNeg + c) j).toInt ∧ (upd (μ.2.1 12) s.toNatClampNeg ((μ.2.1 12) s.toNatClampNeg + c) j).toInt ≤ (μ.2.1 28 9).toInt + 1) ∧ _ ∧ (0 ≤ (upd (μ.2.1 14) s.toNatClampNeg ((μ.2.1 14) s.toNatClampNeg + 1) j).toInt ∧ (upd (μ.2.1 14) s.toNatClampNeg ((μ.2.1 14) s.toNatClampNeg + 1) j).toInt ≤ 4) ∧ (0 ≤ ((μ.2.1 17) j).toInt ∧ ((μ.2.1 17) j).toInt ≤ 1000000 + ((n + 1 : Nat) : Int)) ∧ (0 ≤ ((μ.2.1 18) j).toInt ∧ ((μ.2.1 18) j).toInt ≤ ((n + 1 : Nat) : Int))
            refine ⟨?_, hzj.2.1, ?_, by omega, by omega⟩
            · by_cases hj2 : j = s.toNatClampNeg
              · rw [hj2, upd_s]; omega
              · rw [upd_o hj2]; omega
            · by_cases hj2 : j = s.toNatClampNeg
              · rw [hj2, upd_s]; omega
              · rw [upd_o hj2]; omega
          · show (μ.2.1 28 5).toInt < (upd (μ.2.1 12) s.toNatClampNeg ((μ.2.1 12) s.toNatClampNeg + c) s.toNatClampNeg).toInt
            rw [upd_s]; omega
          · show (k + 1).toInt ≤ (upd (μ.2.1 14) s.toNatClampNeg ((μ.2.1 14) s.toNatClampNeg + 1) s.toNatClampNeg).toInt
            rw [upd_s]; omega
        by_cases h6 : (μ.2.1 28 9) - (μ.2.1 12) s.toNatClampNeg + 1 ≤ 6
        · rw [if_pos h6]
          rw [Int32.le_iff_toInt_le, il_6] at h6
          have eq : (if (μ.2.1 28 9) - (μ.2.1 12) s.toNatClampNeg + 1 < 6 then (μ.2.1 28 9) - (μ.2.1 12) s.toNatClampNeg + 1 else 6) = (μ.2.1 28 9) - (μ.2.1 12) s.toNatClampNeg + 1 := by
            by_cases h7 : (μ.2.1 28 9) - (μ.2.1 12) s.toNatClampNeg + 1 < 6
            · rw [if_pos h7]
            · rw [if_neg h7]
              rw [Int32.lt_iff_toInt_lt, il_6] at h7
              exact inj_i (by rw [il_6]; omega)
          rw [eq]
          exact body _ (by omega) (by omega) (by omega)
        · rw [if_neg h6]
          rw [Int32.le_iff_toInt_le, il_6] at h6
          rw [if_neg (by rw [Int32.lt_iff_toInt_lt, il_6]; omega)]
          exact body _ (by decide) (by decide) (by rw [il_6]; omega)
      · have hq' : lim ≤ (μ.2.1 14) s.toNatClampNeg := by
          rw [Int32.lt_iff_toInt_lt] at hq
          rw [Int32.le_iff_toInt_le]; omega
        rw [if_neg hq, if_pos hq']
        exact fin
theorem P_sendTo {g h μ ν : XMu} {n : Nat} (he : RE g h μ ν) (hi : RI n μ) (hr : (μ.2.1 0 9) = 3) (hn : n + 5 ≤ 1000000) {s : Int32} (hs : 0 ≤ s.toInt) (hs2 : s.toInt ≤ 6) (ab : Int32) : Pw g h (n + 5) (Keep μ) (yC_sendTo s ab μ) (yM_sendTo s ab ν) := by
  have xi := xin_of (i := s) (n := 7) hs (by omega)
  have t1 := tn_of hs
  have hz := hi.lead hr s.toNatClampNeg (by omega)
  unfold yC_sendTo yM_sendTo
  rw [xgd_t xi, xgd_t xi, xgd_t xi, xgd_t xi, xgd_t xi, xgd_t xi, he.next, he.base, he.flying]
  by_cases hc : (μ.2.1 28 5) < (μ.2.1 12) s.toNatClampNeg
  · rw [if_pos hc, if_pos hc]
    rw [Int32.lt_iff_toInt_lt] at hc
    by_cases hp : (μ.2.1 15) s.toNatClampNeg = 0
    · rw [if_pos hp]
      exact send_loop hs hs2 ab 4 4 1000 0 0 n μ ν he hi hr (by omega) (by decide) (by decide) (by omega) hc (by rw [il_0]; omega) (by rw [if_pos hp])
    · rw [if_neg hp]
      exact send_loop hs hs2 ab 1 4 1000 0 0 n μ ν he hi hr (by omega) (by decide) (by decide) (by omega) hc (by rw [il_0]; omega) (by rw [if_neg hp])
  · rw [if_neg hc, if_neg hc]
    by_cases hf : (μ.2.1 14) s.toNatClampNeg = 0
    · rw [if_neg (not_not_intro hf), if_neg (not_not_intro hf)]
      exact ((P_piece he hi (by omega) hs hs2).tail).mono (by omega) (fun _ h => h)
    · rw [if_pos hf, if_pos hf]
      exact Pw.ret he (hi.mono (by omega)) Keep.refl
theorem all_loop {g h : XMu} (ab : Int32) : ∀ (r f : Nat) (o x : Int32) (n : Nat) (μ ν : XMu), RE g h μ ν → RI n μ → (μ.2.1 0 9) = 3 → n + 5 * r ≤ 1000000 → o = yC_peers μ → 0 ≤ x.toInt → x.toInt + r = 7 → r < f → Pw g h (n + 5 * r) (Keep μ) (yC_sendToPeers_b7_L f ab o x μ) (yM_sendAll_b2_L f ab x ν) := by
  intro r
  induction r with
  | zero =>
    intro f o x n μ ν he hi hr hn ho hx hxr hf
    obtain ⟨f, rfl⟩ : ∃ f', f = f' + 1 := ⟨f - 1, by omega⟩
    unfold yC_sendToPeers_b7_L yC_sendToPeers_b7 yM_sendAll_b2_L yM_sendAll_b2
    have hc : (7 : Int32) ≤ x := by rw [Int32.le_iff_toInt_le, il_7]; omega
    rw [if_pos hc, if_pos hc]
    exact Pw.ret he hi Keep.refl
  | succ r ih =>
    intro f o x n μ ν he hi hr hn ho hx hxr hf
    obtain ⟨f, rfl⟩ : ∃ f', f = f' + 1 := ⟨f - 1, by omega⟩
    unfold yC_sendToPeers_b7_L yC_sendToPeers_b7 yM_sendAll_b2_L yM_sendAll_b2
    have hc : ¬ (7 : Int32) ≤ x := by rw [Int32.le_iff_toInt_le, il_7]; omega
    have e5 := inc_i (n := x) (by omega)
    rw [if_neg hc, if_neg hc, peers_m he (hi.LB (by omega)) hi.mem, xbi_s, has_eq _ hx (by omega), ← ho]
    by_cases hz : yC_has o x = 0
    · rw [if_pos hz, if_pos hz]
      exact (ih f o (x + 1) n μ ν he hi hr (by omega) ho (by omega) (by omega) (by omega)).mono (by omega) (fun _ h => h)
    · rw [if_neg hz, if_neg hz]
      refine (P_sendTo he hi hr (by omega) hx (by omega) ab).bind fun μ1 ν1 he1 hi1 hk => ?_
      exact (ih f o (x + 1) (n + 5) μ1 ν1 he1 hi1 (hk.1.trans hr) (by omega) (by rw [hk.peers]; exact ho) (by omega) (by omega) (by omega)).mono (by omega) (fun _ h => hk.trans h)
theorem P_sendAll {g h μ ν : XMu} {n : Nat} (he : RE g h μ ν) (hi : RI n μ) (hr : (μ.2.1 0 9) = 3) (hn : n + 35 ≤ 1000000) (ab : Int32) : Pw g h (n + 35) (Keep μ) (yC_sendToPeers ab μ) (yM_sendAll ab ν) := by
  unfold yC_sendToPeers yM_sendAll
  exact all_loop ab 7 1000 _ 0 n μ ν he hi hr (by omega) rfl (by decide) (by decide) (by omega)
theorem zs_last {μ : XMu} (hb : LB μ) : zs (μ.2.1 28 5) ((μ.2.1 28 9) + 1) = ((μ.2.1 28 9) - (μ.2.1 28 5)).toNatClampNeg := by
  obtain ⟨b1, b2, b3, b4⟩ := hb
  have e := inc_i (n := (μ.2.1 28 9)) (by omega)
  have z := zs_n (b := (μ.2.1 28 5)) (n := (μ.2.1 28 9) + 1) b1 (by omega)
  have e2 : ((μ.2.1 28 9) - (μ.2.1 28 5)).toInt = (μ.2.1 28 9).toInt - (μ.2.1 28 5).toInt := i32_sub (by omega) (by omega)
  have t := tn_of (i := (μ.2.1 28 9) - (μ.2.1 28 5)) (by omega)
  omega
theorem log_write {b l : Int32} {t k v t' k' v' : Nat → Int32} {x y z : Int32} (h : ZL b l t k v t' k' v') (h0 : 0 ≤ b.toInt) (h1 : b.toInt ≤ l.toInt) (h2 : l.toInt < b.toInt + 300) (h3 : l.toInt ≤ 3000000) : ZL b (l + 1) (upd t (zs b (l + 1)) x) (upd k (zs b (l + 1)) y) (upd v (zs b (l + 1)) z) (upd t' (zr (l + 1)) x) (upd k' (zr (l + 1)) y) (upd v' (zr (l + 1)) z) := by
  intro n n1 n2
  have e := inc_i (n := l) (by omega)
  by_cases hn : n = l + 1
  · subst hn
    rw [upd_s, upd_s, upd_s, upd_s, upd_s, upd_s]
    exact ⟨rfl, rfl, rfl⟩
  · have hlt : n.toInt ≤ l.toInt := by
      rcases Int.lt_or_eq_of_le n2 with q | q
      · omega
      · exact absurd (inj_i q) hn
    have z1 := zs_n (b := b) (n := n) h0 n1
    have z2 := zs_n (b := b) (n := l + 1) h0 (by omega)
    have r1 := zr_n (n := n) (by omega)
    have r2 := zr_n (n := l + 1) (by omega)
    have d1 : zs b n ≠ zs b (l + 1) := by omega
    have d2 : zr n ≠ zr (l + 1) := by omega
    rw [upd_o d1, upd_o d1, upd_o d1, upd_o d2, upd_o d2, upd_o d2]
    exact h n n1 hlt
theorem mem_write {b l bc m c : Int32} {k v : Nat → Int32} {y z : Int32} (h : ZM b l k v bc m c) (h0 : 0 ≤ b.toInt) (h1 : b.toInt ≤ l.toInt) (h3 : l.toInt ≤ 3000000) : (¬ y = 1 → ZM b (l + 1) (upd k (zs b (l + 1)) y) (upd v (zs b (l + 1)) z) bc m c) ∧ (y = 1 → ZM b (l + 1) (upd k (zs b (l + 1)) y) (upd v (zs b (l + 1)) z) bc (l + 1) z) := by
  obtain ⟨⟨p1, p2, p3, p4⟩, p5⟩ := h
  have e := inc_i (n := l) (by omega)
  have z2 := zs_n (b := b) (n := l + 1) h0 (by omega)
  refine ⟨fun hy => ⟨⟨p1, by omega, fun hm => ?_, fun n n1 n2 => ?_⟩, ?_⟩, fun hy => ⟨⟨by omega, Int.le_refl _, fun _ => ?_, fun n n1 n2 => by omega⟩, ?_⟩⟩
  · have z1 := zs_n (b := b) (n := m) h0 hm
    rw [upd_o (by omega)]
    exact p3 hm
  · by_cases hn : n = l + 1
    · subst hn; rw [upd_s]; exact hy
    · have hlt : n.toInt ≤ l.toInt := by
        rcases Int.lt_or_eq_of_le n2 with q | q
        · omega
        · exact absurd (inj_i q) hn
      have z1 := zs_n (b := b) (n := n) h0 (by omega)
      rw [upd_o (by omega)]
      exact p4 n n1 hlt
  · rw [p5]
    by_cases hm : m = b
    · rw [if_pos hm, if_pos hm]
    · rw [if_neg hm, if_neg hm]
      have hlt : b.toInt < m.toInt := by
        rcases Int.lt_or_eq_of_le p1 with q | q
        · exact q
        · exact absurd (inj_i q.symm) hm
      have z1 := zs_n (b := b) (n := m) h0 hlt
      rw [upd_o (by omega)]
  · rw [upd_s]; exact hy
  · rw [if_neg (fun hh => by rw [hh] at e; omega), upd_s]
def Wrote (μ : XMu) (μ' : XMu) : Prop := (μ'.2.1 0 9) = (μ.2.1 0 9) ∧ (μ'.2.1 0 0) = (μ.2.1 0 0) ∧ (μ'.2.1 28 9) = (μ.2.1 28 9) + 1 ∧ (μ'.2.1 13) = (μ.2.1 13) ∧ (μ'.2.1 28 5) = (μ.2.1 28 5) ∧ (μ'.2.1 0 11) = (μ.2.1 0 11) ∧ (μ'.2.1 0 12) = (μ.2.1 0 12) ∧ (μ'.2.1 8) = (μ.2.1 8) ∧ (μ'.2.1 9) = (μ.2.1 9) ∧ (μ'.2.1 10) = (μ.2.1 10)
theorem P_write {g h μ ν : XMu} {n : Nat} (he : RE g h μ ν) (hi : RI n μ) (hn : n ≤ 1000000) (hroom : (μ.2.1 28 9).toInt < (μ.2.1 28 5).toInt + 300) (t k v : Int32) : Pw g h (n + 1) (Wrote μ) (yDi_write t k v μ) (yM_write t k v ν) := by
  have hb := hi.LB hn
  obtain ⟨b1, b2, b3, b4⟩ := id hb
  have e := inc_i (n := (μ.2.1 28 9)) (by omega)
  have e2 : ((μ.2.1 28 9) - (μ.2.1 28 5)).toInt = (μ.2.1 28 9).toInt - (μ.2.1 28 5).toInt := i32_sub (by omega) (by omega)
  have xi := xin_of (i := (μ.2.1 28 9) - (μ.2.1 28 5)) (n := 300) (by omega) (by omega)
  have hl := hi.last
  have hc := hi.cl
  have hs := hi.syn
  have hi1 := hi.mono (Nat.le_add_right n 1)
  unfold yDi_write yM_write
  rw [if_neg (by rw [Int32.lt_iff_toInt_lt, il_0]; omega), if_pos (by rw [Int32.lt_iff_toInt_lt, il_300]; omega), xgd_t xi, xgd_t xi, xgd_t xi, he.last, xgd_t (zr_in (by omega)), xgd_t (zr_in (by omega)), xgd_t (zr_in (by omega)), ← zs_last hb]
  have LG := log_write (x := t) (y := k) (z := v) he.log b1 b2 hroom b4
  have MW := mem_write (y := k) (z := v) hi.mem b1 b2 b4
  have LD : (μ.2.1 0 9) = 3 → ZD (n + 1) ((μ.2.1 28 9) + 1) (μ.2.1 12) (μ.2.1 13) (μ.2.1 14) (μ.2.1 17) (μ.2.1 18) := fun r j hj => by
    have := hi.lead r j hj
    omega
  by_cases hk : k = 1
  · rw [if_neg (not_not_intro hk)]
    exact Pw.ret ((RE.mk (ft := he.ft) (fg := fun c hc => by first | exact he.fg c hc | (have hh := he.fg c hc; (try unfold zq at hh); (try unfold zd at hh); (try unfold zf at hh); (try unfold zo at hh); (try unfold zo); (try unfold zh at hh); (try unfold zh); (try unfold zq); (try unfold zd); (try unfold zf); (try dsimp only at hh); (try dsimp only); (repeat (first | rw [xuI_o (by omega)] at hh | rw [xuL_o (by omega)] at hh | rw [va_up_o (by omega)] at hh)); (repeat (first | rw [xuI_o (by omega)] | rw [xuL_o (by omega)] | rw [va_up_o (by omega)])); exact hh)) (fgl := fun c hc => by first | exact he.fgl c hc | (have hh := he.fgl c hc; (try unfold zq at hh); (try unfold zd at hh); (try unfold zf at hh); (try unfold zo at hh); (try unfold zo); (try unfold zh at hh); (try unfold zh); (try unfold zq); (try unfold zd); (try unfold zf); (try dsimp only at hh); (try dsimp only); (repeat (first | rw [xuI_o (by omega)] at hh | rw [xuL_o (by omega)] at hh | rw [va_up_o (by omega)] at hh)); (repeat (first | rw [xuI_o (by omega)] | rw [xuL_o (by omega)] | rw [va_up_o (by omega)])); exact hh)) (ht := he.ht) (hg := fun c hc => by first | exact he.hg c hc | (have hh := he.hg c hc; (try unfold zq at hh); (try unfold zd at hh); (try unfold zf at hh); (try unfold zo at hh); (try unfold zo); (try unfold zh at hh); (try unfold zh); (try unfold zq); (try unfold zd); (try unfold zf); (try dsimp only at hh); (try dsimp only); (repeat (first | rw [xuI_o (by omega)] at hh | rw [xuL_o (by omega)] at hh | rw [va_up_o (by omega)] at hh)); (repeat (first | rw [xuI_o (by omega)] | rw [xuL_o (by omega)] | rw [va_up_o (by omega)])); exact hh)) (hgl := fun c hc => by first | exact he.hgl c hc | (have hh := he.hgl c hc; (try unfold zq at hh); (try unfold zd at hh); (try unfold zf at hh); (try unfold zo at hh); (try unfold zo); (try unfold zh at hh); (try unfold zh); (try unfold zq); (try unfold zd); (try unfold zf); (try dsimp only at hh); (try dsimp only); (repeat (first | rw [xuI_o (by omega)] at hh | rw [xuL_o (by omega)] at hh | rw [va_up_o (by omega)] at hh)); (repeat (first | rw [xuI_o (by omega)] | rw [xuL_o (by omega)] | rw [va_up_o (by omega)])); exact hh)) (thr := he.thr) (row := he.row) (itself := he.itself) (now := he.now) (term := he.term) (voted := he.voted) (base := he.base) (last := rfl) (baseTerm := he.baseTerm) (baseCode := he.baseCode) (snapshot := he.snapshot) (dirty := rfl) (role := he.role) (leader := he.leader) (commit := he.commit) (applied := he.applied) (synced := he.synced) (heard := he.heard) (alarm := he.alarm) (votes := he.votes) (handing := he.handing) (handed := he.handed) (first := he.first) (round := he.round) (assembly := he.assembly) (described := he.described) (toldBase := he.toldBase) (toldTerm := he.toldTerm) (toldCode := he.toldCode) (toldSize := he.toldSize) (told := he.told) (waits := he.waits) (went := he.went) (done := he.done) (calls := he.calls) (next := he.next) (mtch := he.mtch) (flying := he.flying) (offset := he.offset) (ack := he.ack) (seen := he.seen) (probing := he.probing) (answered := he.answered) (toldTerms := he.toldTerms) (toldKinds := he.toldKinds) (toldValues := he.toldValues) (doneNumbers := he.doneNumbers) (doneValues := he.doneValues) (callState := he.callState) (callNumber := he.callNumber) (got := he.got) (log := LG) (kept := he.kept) (wait := he.wait) (cls := he.cls))) ((RI.mk (itself := hi1.itself) (role := hi1.role) (base := hi1.base) (ba := hi1.ba) (ac := hi1.ac) (cl := by show (μ.2.1 0 11).toInt ≤ ((μ.2.1 28 9) + 1).toInt; omega) (lb := by show ((μ.2.1 28 9) + 1).toInt ≤ (μ.2.1 28 5).toInt + 300; omega) (last := by show ((μ.2.1 28 9) + 1).toInt ≤ 1000000 + ((n + 1 : Nat) : Int); omega) (syn := ⟨hs.1, by show (μ.2.1 28 10).toInt ≤ ((μ.2.1 28 9) + 1).toInt; omega⟩) (dirty := rfl) (desc := hi1.desc) (now := hi1.now) (term := hi1.term) (went := hi1.went) (waits := hi1.waits) (done := hi1.done) (calls := hi1.calls) (told := hi1.told) (round := hi1.round) (hand := hi1.hand) (heard := hi1.heard) (vote := hi1.vote) (lead := LD) (quiet := hi1.quiet) (cmd := hi1.cmd) (tt := hi1.tt) (tb := hi1.tb) (got := hi1.got) (mem := MW.2 hk))) ⟨rfl, rfl, rfl, rfl, rfl, rfl, rfl, rfl, rfl, rfl⟩
  · rw [if_pos hk]
    exact Pw.ret ((RE.mk (ft := he.ft) (fg := fun c hc => by first | exact he.fg c hc | (have hh := he.fg c hc; (try unfold zq at hh); (try unfold zd at hh); (try unfold zf at hh); (try unfold zo at hh); (try unfold zo); (try unfold zh at hh); (try unfold zh); (try unfold zq); (try unfold zd); (try unfold zf); (try dsimp only at hh); (try dsimp only); (repeat (first | rw [xuI_o (by omega)] at hh | rw [xuL_o (by omega)] at hh | rw [va_up_o (by omega)] at hh)); (repeat (first | rw [xuI_o (by omega)] | rw [xuL_o (by omega)] | rw [va_up_o (by omega)])); exact hh)) (fgl := fun c hc => by first | exact he.fgl c hc | (have hh := he.fgl c hc; (try unfold zq at hh); (try unfold zd at hh); (try unfold zf at hh); (try unfold zo at hh); (try unfold zo); (try unfold zh at hh); (try unfold zh); (try unfold zq); (try unfold zd); (try unfold zf); (try dsimp only at hh); (try dsimp only); (repeat (first | rw [xuI_o (by omega)] at hh | rw [xuL_o (by omega)] at hh | rw [va_up_o (by omega)] at hh)); (repeat (first | rw [xuI_o (by omega)] | rw [xuL_o (by omega)] | rw [va_up_o (by omega)])); exact hh)) (ht := he.ht) (hg := fun c hc => by first | exact he.hg c hc | (have hh := he.hg c hc; (try unfold zq at hh); (try unfold zd at hh); (try unfold zf at hh); (try unfold zo at hh); (try unfold zo); (try unfold zh at hh); (try unfold zh); (try unfold zq); (try unfold zd); (try unfold zf); (try dsimp only at hh); (try dsimp only); (repeat (first | rw [xuI_o (by omega)] at hh | rw [xuL_o (by omega)] at hh | rw [va_up_o (by omega)] at hh)); (repeat (first | rw [xuI_o (by omega)] | rw [xuL_o (by omega)] | rw [va_up_o (by omega)])); exact hh)) (hgl := fun c hc => by first | exact he.hgl c hc | (have hh := he.hgl c hc; (try unfold zq at hh); (try unfold zd at hh); (try unfold zf at hh); (try unfold zo at hh); (try unfold zo); (try unfold zh at hh); (try unfold zh); (try unfold zq); (try unfold zd); (try unfold zf); (try dsimp only at hh); (try dsimp only); (repeat (first | rw [xuI_o (by omega)] at hh | rw [xuL_o (by omega)] at hh | rw [va_up_o (by omega)] at hh)); (repeat (first | rw [xuI_o (by omega)] | rw [xuL_o (by omega)] | rw [va_up_o (by omega)])); exact hh)) (thr := he.thr) (row := he.row) (itself := he.itself) (now := he.now) (term := he.term) (voted := he.voted) (base := he.base) (last := rfl) (baseTerm := he.baseTerm) (baseCode := he.baseCode) (snapshot := he.snapshot) (dirty := rfl) (role := he.role) (leader := he.leader) (commit := he.commit) (applied := he.applied) (synced := he.synced) (heard := he.heard) (alarm := he.alarm) (votes := he.votes) (handing := he.handing) (handed := he.handed) (first := he.first) (round := he.round) (assembly := he.assembly) (described := he.described) (toldBase := he.toldBase) (toldTerm := he.toldTerm) (toldCode := he.toldCode) (toldSize := he.toldSize) (told := he.told) (waits := he.waits) (went := he.went) (done := he.done) (calls := he.calls) (next := he.next) (mtch := he.mtch) (flying := he.flying) (offset := he.offset) (ack := he.ack) (seen := he.seen) (probing := he.probing) (answered := he.answered) (toldTerms := he.toldTerms) (toldKinds := he.toldKinds) (toldValues := he.toldValues) (doneNumbers := he.doneNumbers) (doneValues := he.doneValues) (callState := he.callState) (callNumber := he.callNumber) (got := he.got) (log := LG) (kept := he.kept) (wait := he.wait) (cls := he.cls))) ((RI.mk (itself := hi1.itself) (role := hi1.role) (base := hi1.base) (ba := hi1.ba) (ac := hi1.ac) (cl := by show (μ.2.1 0 11).toInt ≤ ((μ.2.1 28 9) + 1).toInt; omega) (lb := by show ((μ.2.1 28 9) + 1).toInt ≤ (μ.2.1 28 5).toInt + 300; omega) (last := by show ((μ.2.1 28 9) + 1).toInt ≤ 1000000 + ((n + 1 : Nat) : Int); omega) (syn := ⟨hs.1, by show (μ.2.1 28 10).toInt ≤ ((μ.2.1 28 9) + 1).toInt; omega⟩) (dirty := rfl) (desc := hi1.desc) (now := hi1.now) (term := hi1.term) (went := hi1.went) (waits := hi1.waits) (done := hi1.done) (calls := hi1.calls) (told := hi1.told) (round := hi1.round) (hand := hi1.hand) (heard := hi1.heard) (vote := hi1.vote) (lead := LD) (quiet := hi1.quiet) (cmd := hi1.cmd) (tt := hi1.tt) (tb := hi1.tb) (got := hi1.got) (mem := MW.1 hk))) ⟨rfl, rfl, rfl, rfl, rfl, rfl, rfl, rfl, rfl, rfl⟩
theorem beat_loop {g h : XMu} : ∀ (r f : Nat) (o x : Int32) (n : Nat) (μ ν : XMu), RE g h μ ν → RI n μ → (μ.2.1 0 9) = 3 → n ≤ 1000000 → o = yC_peers μ → 0 ≤ x.toInt → x.toInt + r = 7 → r < f → ∃ μ' ν', yC_beat_b58_L f o x μ = yC_beat_b96 μ' ∧ yM_beat_b49_L f x ν = yM_beat_b125 ν' ∧ RE g h μ' ν' ∧ RI n μ' ∧ (μ'.2.1 0 9) = 3 := by
  intro r
  induction r with
  | zero =>
    intro f o x n μ ν he hi hr hn ho hx hxr hf
    obtain ⟨f, rfl⟩ : ∃ f', f = f' + 1 := ⟨f - 1, by omega⟩
    unfold yC_beat_b58_L yC_beat_b58 yM_beat_b49_L yM_beat_b49
    have hc : (7 : Int32) ≤ x := by rw [Int32.le_iff_toInt_le, il_7]; omega
    rw [if_pos hc, if_pos hc]
    exact ⟨μ, ν, rfl, rfl, he, hi, hr⟩
  | succ r ih =>
    intro f o x n μ ν he hi hr hn ho hx hxr hf
    obtain ⟨f, rfl⟩ : ∃ f', f = f' + 1 := ⟨f - 1, by omega⟩
    unfold yC_beat_b58_L yC_beat_b58 yM_beat_b49_L yM_beat_b49
    have hc : ¬ (7 : Int32) ≤ x := by rw [Int32.le_iff_toInt_le, il_7]; omega
    have e5 := inc_i (n := x) (by omega)
    have t1 := tn_of hx
    have xi := xin_of (i := x) (n := 7) hx (by omega)
    have hz := hi.lead hr x.toNatClampNeg (by omega)
    have b4 := (hi.LB hn).2.2.2
    rw [if_neg hc, if_neg hc, peers_m he (hi.LB (by omega)) hi.mem, xbi_s, has_eq _ hx (by omega), ← ho]
    have go0 := ih f o (x + 1) n (μ.1, xuI μ.2.1 19 x.toNatClampNeg 0, μ.2.2) (ν.1, xuI ν.2.1 43 x.toNatClampNeg 0, ν.2.2) ((RE.mk (ft := he.ft) (fg := fun c hc => by first | exact he.fg c hc | (have hh := he.fg c hc; (try unfold zq at hh); (try unfold zd at hh); (try unfold zf at hh); (try unfold zo at hh); (try unfold zo); (try unfold zh at hh); (try unfold zh); (try unfold zq); (try unfold zd); (try unfold zf); (try dsimp only at hh); (try dsimp only); (repeat (first | rw [xuI_o (by omega)] at hh | rw [xuL_o (by omega)] at hh | rw [va_up_o (by omega)] at hh)); (repeat (first | rw [xuI_o (by omega)] | rw [xuL_o (by omega)] | rw [va_up_o (by omega)])); exact hh)) (fgl := fun c hc => by first | exact he.fgl c hc | (have hh := he.fgl c hc; (try unfold zq at hh); (try unfold zd at hh); (try unfold zf at hh); (try unfold zo at hh); (try unfold zo); (try unfold zh at hh); (try unfold zh); (try unfold zq); (try unfold zd); (try unfold zf); (try dsimp only at hh); (try dsimp only); (repeat (first | rw [xuI_o (by omega)] at hh | rw [xuL_o (by omega)] at hh | rw [va_up_o (by omega)] at hh)); (repeat (first | rw [xuI_o (by omega)] | rw [xuL_o (by omega)] | rw [va_up_o (by omega)])); exact hh)) (ht := he.ht) (hg := fun c hc => by first | exact he.hg c hc | (have hh := he.hg c hc; (try unfold zq at hh); (try unfold zd at hh); (try unfold zf at hh); (try unfold zo at hh); (try unfold zo); (try unfold zh at hh); (try unfold zh); (try unfold zq); (try unfold zd); (try unfold zf); (try dsimp only at hh); (try dsimp only); (repeat (first | rw [xuI_o (by omega)] at hh | rw [xuL_o (by omega)] at hh | rw [va_up_o (by omega)] at hh)); (repeat (first | rw [xuI_o (by omega)] | rw [xuL_o (by omega)] | rw [va_up_o (by omega)])); exact hh)) (hgl := fun c hc => by first | exact he.hgl c hc | (have hh := he.hgl c hc; (try unfold zq at hh); (try unfold zd at hh); (try unfold zf at hh); (try unfold zo at hh); (try unfold zo); (try unfold zh at hh); (try unfold zh); (try unfold zq); (try unfold zd); (try unfold zf); (try dsimp only at hh); (try dsimp only); (repeat (first | rw [xuI_o (by omega)] at hh | rw [xuL_o (by omega)] at hh | rw [va_up_o (by omega)] at hh)); (repeat (first | rw [xuI_o (by omega)] | rw [xuL_o (by omega)] | rw [va_up_o (by omega)])); exact hh)) (thr := he.thr) (row := he.row) (itself := he.itself) (now := he.now) (term := he.term) (voted := he.voted) (base := he.base) (last := he.last) (baseTerm := he.baseTerm) (baseCode := he.baseCode) (snapshot := he.snapshot) (dirty := he.dirty) (role := he.role) (leader := he.leader) (commit := he.commit) (applied := he.applied) (synced := he.synced) (heard := he.heard) (alarm := he.alarm) (votes := he.votes) (handing := he.handing) (handed := he.handed) (first := he.first) (round := he.round) (assembly := he.assembly) (described := he.described) (toldBase := he.toldBase) (toldTerm := he.toldTerm) (toldCode := he.toldCode) (toldSize := he.toldSize) (told := he.told) (waits := he.waits) (went := he.went) (done := he.done) (calls := he.calls) (next := he.next) (mtch := he.mtch) (flying := he.flying) (offset := he.offset) (ack := he.ack) (seen := he.seen) (probing := he.probing) (answered := congrArg (fun F => upd F x.toNatClampNeg 0) he.answered) (toldTerms := he.toldTerms) (toldKinds := he.toldKinds) (toldValues := he.toldValues) (doneNumbers := he.doneNumbers) (doneValues := he.doneValues) (callState := he.callState) (callNumber := he.callNumber) (got := he.got) (log := he.log) (kept := he.kept) (wait := he.wait) (cls := he.cls))) ((RI.mk (itself := hi.itself) (role := hi.role) (base := hi.base) (ba := hi.ba) (ac := hi.ac) (cl := hi.cl) (lb := hi.lb) (last := hi.last) (syn := hi.syn) (dirty := hi.dirty) (desc := hi.desc) (now := hi.now) (term := hi.term) (went := hi.went) (waits := hi.waits) (done := hi.done) (calls := hi.calls) (told := hi.told) (round := hi.round) (hand := hi.hand) (heard := hi.heard) (vote := hi.vote) (lead := hi.lead) (quiet := hi.quiet) (cmd := hi.cmd) (tt := hi.tt) (tb := hi.tb) (got := hi.got) (mem := hi.mem))) hr hn ho (by omega) (by omega) (by omega)
    by_cases hp : yC_has o x = 0
    · rw [if_pos hp, if_pos hp, xgd_t xi, xgd_t xi]
      exact go0
    · rw [if_neg hp, if_neg hp]
      unfold yLe_fallBackIfSilent
      rw [xgd_t xi, xgd_t xi, he.flying, he.answered]
      by_cases h1 : (μ.2.1 14) x.toNatClampNeg ≤ 0
      · rw [if_pos h1, if_pos h1, xbv_s]
        repeat rw [xgd_t xi]
        exact go0
      · rw [if_neg h1, if_neg h1, xgd_t xi, xgd_t xi]
        by_cases h2 : (μ.2.1 19) x.toNatClampNeg = 0
        · rw [if_neg (not_not_intro h2), if_neg (not_not_intro h2)]
          repeat rw [xgd_t xi]
          rw [xbv_s]
          repeat rw [xgd_t xi]
          rw [he.mtch]
          have m1 := inc_i (n := (μ.2.1 13) x.toNatClampNeg) (by omega)
          refine ih f o (x + 1) n _ _ ?_ ?_ hr hn ho (by omega) (by omega) (by omega)
          · exact (RE.mk (ft := he.ft) (fg := fun c hc => by first | exact he.fg c hc | (have hh := he.fg c hc; (try unfold zq at hh); (try unfold zd at hh); (try unfold zf at hh); (try unfold zo at hh); (try unfold zo); (try unfold zh at hh); (try unfold zh); (try unfold zq); (try unfold zd); (try unfold zf); (try dsimp only at hh); (try dsimp only); (repeat (first | rw [xuI_o (by omega)] at hh | rw [xuL_o (by omega)] at hh | rw [va_up_o (by omega)] at hh)); (repeat (first | rw [xuI_o (by omega)] | rw [xuL_o (by omega)] | rw [va_up_o (by omega)])); exact hh)) (fgl := fun c hc => by first | exact he.fgl c hc | (have hh := he.fgl c hc; (try unfold zq at hh); (try unfold zd at hh); (try unfold zf at hh); (try unfold zo at hh); (try unfold zo); (try unfold zh at hh); (try unfold zh); (try unfold zq); (try unfold zd); (try unfold zf); (try dsimp only at hh); (try dsimp only); (repeat (first | rw [xuI_o (by omega)] at hh | rw [xuL_o (by omega)] at hh | rw [va_up_o (by omega)] at hh)); (repeat (first | rw [xuI_o (by omega)] | rw [xuL_o (by omega)] | rw [va_up_o (by omega)])); exact hh)) (ht := he.ht) (hg := fun c hc => by first | exact he.hg c hc | (have hh := he.hg c hc; (try unfold zq at hh); (try unfold zd at hh); (try unfold zf at hh); (try unfold zo at hh); (try unfold zo); (try unfold zh at hh); (try unfold zh); (try unfold zq); (try unfold zd); (try unfold zf); (try dsimp only at hh); (try dsimp only); (repeat (first | rw [xuI_o (by omega)] at hh | rw [xuL_o (by omega)] at hh | rw [va_up_o (by omega)] at hh)); (repeat (first | rw [xuI_o (by omega)] | rw [xuL_o (by omega)] | rw [va_up_o (by omega)])); exact hh)) (hgl := fun c hc => by first | exact he.hgl c hc | (have hh := he.hgl c hc; (try unfold zq at hh); (try unfold zd at hh); (try unfold zf at hh); (try unfold zo at hh); (try unfold zo); (try unfold zh at hh); (try unfold zh); (try unfold zq); (try unfold zd); (try unfold zf); (try dsimp only at hh); (try dsimp only); (repeat (first | rw [xuI_o (by omega)] at hh | rw [xuL_o (by omega)] at hh | rw [va_up_o (by omega)] at hh)); (repeat (first | rw [xuI_o (by omega)] | rw [xuL_o (by omega)] | rw [va_up_o (by omega)])); exact hh)) (thr := he.thr) (row := he.row) (itself := he.itself) (now := he.now) (term := he.term) (voted := he.voted) (base := he.base) (last := he.last) (baseTerm := he.baseTerm) (baseCode := he.baseCode) (snapshot := he.snapshot) (dirty := he.dirty) (role := he.role) (leader := he.leader) (commit := he.commit) (applied := he.applied) (synced := he.synced) (heard := he.heard) (alarm := he.alarm) (votes := he.votes) (handing := he.handing) (handed := he.handed) (first := he.first) (round := he.round) (assembly := he.assembly) (described := he.described) (toldBase := he.toldBase) (toldTerm := he.toldTerm) (toldCode := he.toldCode) (toldSize := he.toldSize) (told := he.told) (waits := he.waits) (went := he.went) (done := he.done) (calls := he.calls) (next := congrArg (fun F => upd F x.toNatClampNeg ((μ.2.1 13) x.toNatClampNeg + 1)) he.next) (mtch := he.mtch) (flying := congrArg (fun F => upd F x.toNatClampNeg 0) he.flying) (offset := he.offset) (ack := he.ack) (seen := he.seen) (probing := congrArg (fun F => upd F x.toNatClampNeg 1) he.probing) (answered := congrArg (fun F => upd F x.toNatClampNeg 0) he.answered) (toldTerms := he.toldTerms) (toldKinds := he.toldKinds) (toldValues := he.toldValues) (doneNumbers := he.doneNumbers) (doneValues := he.doneValues) (callState := he.callState) (callNumber := he.callNumber) (got := he.got) (log := he.log) (kept := he.kept) (wait := he.wait) (cls := he.cls))
          refine (RI.mk (itself := hi.itself) (role := hi.role) (base := hi.base) (ba := hi.ba) (ac := hi.ac) (cl := hi.cl) (lb := hi.lb) (last := hi.last) (syn := hi.syn) (dirty := hi.dirty) (desc := hi.desc) (now := hi.now) (term := hi.term) (went := hi.went) (waits := hi.waits) (done := hi.done) (calls := hi.calls) (told := hi.told) (round := hi.round) (hand := hi.hand) (heard := hi.heard) (vote := hi.vote) (lead := fun _ j hj => ?_) (quiet := hi.quiet) (cmd := hi.cmd) (tt := hi.tt) (tb := hi.tb) (got := hi.got) (mem := hi.mem))
          have hzj := hi.lead hr j hj
          show (1 ≤ (upd (μ.2.1 12) x.toNatClampNeg ((μ.2.1 13) x.toNatClampNeg + 1) j).toInt ∧ (upd (μ.2.1 12) x.toNatClampNeg ((μ.2.1 13) x.toNatClampNeg + 1) j).toInt ≤ (μ.2.1 28 9).toInt + 1) ∧ _ ∧ (0 ≤ (upd (μ.2.1 14) x.toNatClampNeg 0 j).toInt ∧ (upd (μ.2.1 14) x.toNatClampNeg 0 j).toInt ≤ 4) ∧ _
          refine ⟨?_, hzj.2.1, ?_, hzj.2.2.2⟩
          · by_cases hj2 : j = x.toNatClampNeg
            · rw [hj2, upd_s]; omega
            · rw [upd_o hj2]; omega
          · by_cases hj2 : j = x.toNatClampNeg
            · rw [hj2, upd_s, il_0]; omega
            · rw [upd_o hj2]; omega
        · rw [if_pos h2, if_pos h2, xbv_s]
          repeat rw [xgd_t xi]
          exact go0
theorem P_beat0 {g h μ ν : XMu} {n : Nat} (he : RE g h μ ν) (hi : RI n μ) (hr : (μ.2.1 0 9) = 3) (hn : n + 36 ≤ 1000000) : Pv g h (n + 36) (yC_beat_b27 μ) (yM_beat_b26 ν) := by
  unfold yC_beat_b27 yM_beat_b26
  have hd := hi.round
  have e := inc_i (n := (μ.2.1 11 9)) (by omega)
  have hi1 := hi.mono (Nat.le_add_right n 1)
  rw [he.now, he.round]
  obtain ⟨μ1, ν1, o1, o2, he1, hi2, hr1⟩ := beat_loop 7 1000 _ 0 (n + 1) (μ.1, xuI (xuI μ.2.1 0 14 ((μ.2.1 0 8) + 10)) 11 9 ((μ.2.1 11 9) + 1), μ.2.2) (ν.1, xuI (xuI ν.2.1 32 21 ((μ.2.1 0 8) + 10)) 32 26 ((μ.2.1 11 9) + 1), ν.2.2) ((RE.mk (ft := he.ft) (fg := fun c hc => by first | exact he.fg c hc | (have hh := he.fg c hc; (try unfold zq at hh); (try unfold zd at hh); (try unfold zf at hh); (try unfold zo at hh); (try unfold zo); (try unfold zh at hh); (try unfold zh); (try unfold zq); (try unfold zd); (try unfold zf); (try dsimp only at hh); (try dsimp only); (repeat (first | rw [xuI_o (by omega)] at hh | rw [xuL_o (by omega)] at hh | rw [va_up_o (by omega)] at hh)); (repeat (first | rw [xuI_o (by omega)] | rw [xuL_o (by omega)] | rw [va_up_o (by omega)])); exact hh)) (fgl := fun c hc => by first | exact he.fgl c hc | (have hh := he.fgl c hc; (try unfold zq at hh); (try unfold zd at hh); (try unfold zf at hh); (try unfold zo at hh); (try unfold zo); (try unfold zh at hh); (try unfold zh); (try unfold zq); (try unfold zd); (try unfold zf); (try dsimp only at hh); (try dsimp only); (repeat (first | rw [xuI_o (by omega)] at hh | rw [xuL_o (by omega)] at hh | rw [va_up_o (by omega)] at hh)); (repeat (first | rw [xuI_o (by omega)] | rw [xuL_o (by omega)] | rw [va_up_o (by omega)])); exact hh)) (ht := he.ht) (hg := fun c hc => by first | exact he.hg c hc | (have hh := he.hg c hc; (try unfold zq at hh); (try unfold zd at hh); (try unfold zf at hh); (try unfold zo at hh); (try unfold zo); (try unfold zh at hh); (try unfold zh); (try unfold zq); (try unfold zd); (try unfold zf); (try dsimp only at hh); (try dsimp only); (repeat (first | rw [xuI_o (by omega)] at hh | rw [xuL_o (by omega)] at hh | rw [va_up_o (by omega)] at hh)); (repeat (first | rw [xuI_o (by omega)] | rw [xuL_o (by omega)] | rw [va_up_o (by omega)])); exact hh)) (hgl := fun c hc => by first | exact he.hgl c hc | (have hh := he.hgl c hc; (try unfold zq at hh); (try unfold zd at hh); (try unfold zf at hh); (try unfold zo at hh); (try unfold zo); (try unfold zh at hh); (try unfold zh); (try unfold zq); (try unfold zd); (try unfold zf); (try dsimp only at hh); (try dsimp only); (repeat (first | rw [xuI_o (by omega)] at hh | rw [xuL_o (by omega)] at hh | rw [va_up_o (by omega)] at hh)); (repeat (first | rw [xuI_o (by omega)] | rw [xuL_o (by omega)] | rw [va_up_o (by omega)])); exact hh)) (thr := he.thr) (row := he.row) (itself := he.itself) (now := he.now) (term := he.term) (voted := he.voted) (base := he.base) (last := he.last) (baseTerm := he.baseTerm) (baseCode := he.baseCode) (snapshot := he.snapshot) (dirty := he.dirty) (role := he.role) (leader := he.leader) (commit := he.commit) (applied := he.applied) (synced := he.synced) (heard := he.heard) (alarm := rfl) (votes := he.votes) (handing := he.handing) (handed := he.handed) (first := he.first) (round := rfl) (assembly := he.assembly) (described := he.described) (toldBase := he.toldBase) (toldTerm := he.toldTerm) (toldCode := he.toldCode) (toldSize := he.toldSize) (told := he.told) (waits := he.waits) (went := he.went) (done := he.done) (calls := he.calls) (next := he.next) (mtch := he.mtch) (flying := he.flying) (offset := he.offset) (ack := he.ack) (seen := he.seen) (probing := he.probing) (answered := he.answered) (toldTerms := he.toldTerms) (toldKinds := he.toldKinds) (toldValues := he.toldValues) (doneNumbers := he.doneNumbers) (doneValues := he.doneValues) (callState := he.callState) (callNumber := he.callNumber) (got := he.got) (log := he.log) (kept := he.kept) (wait := he.wait) (cls := he.cls))) ((RI.mk (itself := hi1.itself) (role := hi1.role) (base := hi1.base) (ba := hi1.ba) (ac := hi1.ac) (cl := hi1.cl) (lb := hi1.lb) (last := hi1.last) (syn := hi1.syn) (dirty := hi1.dirty) (desc := hi1.desc) (now := hi1.now) (term := hi1.term) (went := hi1.went) (waits := hi1.waits) (done := hi1.done) (calls := hi1.calls) (told := hi1.told) (round := ⟨by show 0 ≤ ((μ.2.1 11 9) + 1).toInt; omega, by show ((μ.2.1 11 9) + 1).toInt ≤ ((n + 1 : Nat) : Int); omega⟩) (hand := hi1.hand) (heard := hi1.heard) (vote := hi1.vote) (lead := hi1.lead) (quiet := hi1.quiet) (cmd := hi1.cmd) (tt := hi1.tt) (tb := hi1.tb) (got := hi1.got) (mem := hi1.mem))) hr (by omega) rfl (by decide) (by decide) (by omega)
  rw [o1, o2]
  unfold yC_beat_b96 yM_beat_b125
  have hit := hi2.itself
  have xi := xin_of (i := (μ1.2.1 0 0)) (n := 7) hit.1 (by omega)
  rw [xgd_t xi, xgd_t xi, xgd_t xi, he1.itself, xgd_t xi, xgd_t xi, xgd_t xi, he1.synced, he1.now, he1.round]
  have hs := hi2.syn
  have hnw := hi2.now
  have hrd := hi2.round
  refine Pw.bindv (P_sendAll (n := n + 1) ?_ ?_ ?_ (by omega) 1) fun μ2 ν2 he2 hi3 hk => ?_
  · exact (RE.mk (ft := he1.ft) (fg := fun c hc => by first | exact he1.fg c hc | (have hh := he1.fg c hc; (try unfold zq at hh); (try unfold zd at hh); (try unfold zf at hh); (try unfold zo at hh); (try unfold zo); (try unfold zh at hh); (try unfold zh); (try unfold zq); (try unfold zd); (try unfold zf); (try dsimp only at hh); (try dsimp only); (repeat (first | rw [xuI_o (by omega)] at hh | rw [xuL_o (by omega)] at hh | rw [va_up_o (by omega)] at hh)); (repeat (first | rw [xuI_o (by omega)] | rw [xuL_o (by omega)] | rw [va_up_o (by omega)])); exact hh)) (fgl := fun c hc => by first | exact he1.fgl c hc | (have hh := he1.fgl c hc; (try unfold zq at hh); (try unfold zd at hh); (try unfold zf at hh); (try unfold zo at hh); (try unfold zo); (try unfold zh at hh); (try unfold zh); (try unfold zq); (try unfold zd); (try unfold zf); (try dsimp only at hh); (try dsimp only); (repeat (first | rw [xuI_o (by omega)] at hh | rw [xuL_o (by omega)] at hh | rw [va_up_o (by omega)] at hh)); (repeat (first | rw [xuI_o (by omega)] | rw [xuL_o (by omega)] | rw [va_up_o (by omega)])); exact hh)) (ht := he1.ht) (hg := fun c hc => by first | exact he1.hg c hc | (have hh := he1.hg c hc; (try unfold zq at hh); (try unfold zd at hh); (try unfold zf at hh); (try unfold zo at hh); (try unfold zo); (try unfold zh at hh); (try unfold zh); (try unfold zq); (try unfold zd); (try unfold zf); (try dsimp only at hh); (try dsimp only); (repeat (first | rw [xuI_o (by omega)] at hh | rw [xuL_o (by omega)] at hh | rw [va_up_o (by omega)] at hh)); (repeat (first | rw [xuI_o (by omega)] | rw [xuL_o (by omega)] | rw [va_up_o (by omega)])); exact hh)) (hgl := fun c hc => by first | exact he1.hgl c hc | (have hh := he1.hgl c hc; (try unfold zq at hh); (try unfold zd at hh); (try unfold zf at hh); (try unfold zo at hh); (try unfold zo); (try unfold zh at hh); (try unfold zh); (try unfold zq); (try unfold zd); (try unfold zf); (try dsimp only at hh); (try dsimp only); (repeat (first | rw [xuI_o (by omega)] at hh | rw [xuL_o (by omega)] at hh | rw [va_up_o (by omega)] at hh)); (repeat (first | rw [xuI_o (by omega)] | rw [xuL_o (by omega)] | rw [va_up_o (by omega)])); exact hh)) (thr := he1.thr) (row := he1.row) (itself := he1.itself) (now := he1.now) (term := he1.term) (voted := he1.voted) (base := he1.base) (last := he1.last) (baseTerm := he1.baseTerm) (baseCode := he1.baseCode) (snapshot := he1.snapshot) (dirty := he1.dirty) (role := he1.role) (leader := he1.leader) (commit := he1.commit) (applied := he1.applied) (synced := he1.synced) (heard := he1.heard) (alarm := he1.alarm) (votes := he1.votes) (handing := he1.handing) (handed := he1.handed) (first := he1.first) (round := he1.round) (assembly := he1.assembly) (described := he1.described) (toldBase := he1.toldBase) (toldTerm := he1.toldTerm) (toldCode := he1.toldCode) (toldSize := he1.toldSize) (told := he1.told) (waits := he1.waits) (went := he1.went) (done := he1.done) (calls := he1.calls) (next := he1.next) (mtch := congrArg (fun F => upd F (μ1.2.1 0 0).toNatClampNeg (μ1.2.1 28 10)) he1.mtch) (flying := he1.flying) (offset := he1.offset) (ack := congrArg (fun F => upd F (μ1.2.1 0 0).toNatClampNeg (μ1.2.1 11 9)) he1.ack) (seen := congrArg (fun F => upd F (μ1.2.1 0 0).toNatClampNeg (μ1.2.1 0 8)) he1.seen) (probing := he1.probing) (answered := he1.answered) (toldTerms := he1.toldTerms) (toldKinds := he1.toldKinds) (toldValues := he1.toldValues) (doneNumbers := he1.doneNumbers) (doneValues := he1.doneValues) (callState := he1.callState) (callNumber := he1.callNumber) (got := he1.got) (log := he1.log) (kept := he1.kept) (wait := he1.wait) (cls := he1.cls))
  · refine (RI.mk (itself := hi2.itself) (role := hi2.role) (base := hi2.base) (ba := hi2.ba) (ac := hi2.ac) (cl := hi2.cl) (lb := hi2.lb) (last := hi2.last) (syn := hi2.syn) (dirty := hi2.dirty) (desc := hi2.desc) (now := hi2.now) (term := hi2.term) (went := hi2.went) (waits := hi2.waits) (done := hi2.done) (calls := hi2.calls) (told := hi2.told) (round := hi2.round) (hand := hi2.hand) (heard := hi2.heard) (vote := hi2.vote) (lead := fun _ j hj => ?_) (quiet := hi2.quiet) (cmd := hi2.cmd) (tt := hi2.tt) (tb := hi2.tb) (got := hi2.got) (mem := hi2.mem))
    have hzj := hi2.lead hr1 j hj
    show _ ∧ (0 ≤ (upd (μ1.2.1 13) (μ1.2.1 0 0).toNatClampNeg (μ1.2.1 28 10) j).toInt ∧ (upd (μ1.2.1 13) (μ1.2.1 0 0).toNatClampNeg (μ1.2.1 28 10) j).toInt ≤ (μ1.2.1 28 9).toInt) ∧ _ ∧ (0 ≤ (upd (μ1.2.1 17) (μ1.2.1 0 0).toNatClampNeg (μ1.2.1 11 9) j).toInt ∧ (upd (μ1.2.1 17) (μ1.2.1 0 0).toNatClampNeg (μ1.2.1 11 9) j).toInt ≤ 1000000 + ((n + 1 : Nat) : Int)) ∧ (0 ≤ (upd (μ1.2.1 18) (μ1.2.1 0 0).toNatClampNeg (μ1.2.1 0 8) j).toInt ∧ (upd (μ1.2.1 18) (μ1.2.1 0 0).toNatClampNeg (μ1.2.1 0 8) j).toInt ≤ ((n + 1 : Nat) : Int))
    refine ⟨hzj.1, ?_, hzj.2.2.1, ?_, ?_⟩
    · by_cases hj2 : j = (μ1.2.1 0 0).toNatClampNeg
      · rw [hj2, upd_s]; omega
      · rw [upd_o hj2]; omega
    · by_cases hj2 : j = (μ1.2.1 0 0).toNatClampNeg
      · rw [hj2, upd_s]; omega
      · rw [upd_o hj2]; omega
    · by_cases hj2 : j = (μ1.2.1 0 0).toNatClampNeg
      · rw [hj2, upd_s]; omega
      · rw [upd_o hj2]; omega
  · exact hr1
  · exact ((P_reads he2 hi3 (by omega)).tail).mono (by omega)
theorem P_beat {g h μ ν : XMu} {n : Nat} (he : RE g h μ ν) (hi : RI n μ) (hr : (μ.2.1 0 9) = 3) (hn : n + 36 ≤ 1000000) : Pv g h (n + 36) (yC_beat μ) (yM_beat ν) := by
  unfold yC_beat yM_beat
  rw [he.handing, he.now, he.handed]
  have hd := hi.hand
  by_cases h1 : (μ.2.1 0 16) = -1
  · rw [if_pos h1, if_pos (by rw [h1]; decide)]
    exact P_beat0 he hi hr hn
  · have h0 : ¬ (μ.2.1 0 16) < 0 := by
      rw [Int32.lt_iff_toInt_lt, il_0]
      rcases hd with q | q
      · exact absurd q h1
      · omega
    rw [if_neg h1, if_neg h0]
    by_cases h2 : (μ.2.1 0 8) - (μ.2.1 0 17) ≤ 50
    · rw [if_pos h2, if_pos h2]
      exact P_beat0 he hi hr hn
    · rw [if_neg h2, if_neg h2]
      exact P_beat0 ((RE.mk (ft := he.ft) (fg := fun c hc => by first | exact he.fg c hc | (have hh := he.fg c hc; (try unfold zq at hh); (try unfold zd at hh); (try unfold zf at hh); (try unfold zo at hh); (try unfold zo); (try unfold zh at hh); (try unfold zh); (try unfold zq); (try unfold zd); (try unfold zf); (try dsimp only at hh); (try dsimp only); (repeat (first | rw [xuI_o (by omega)] at hh | rw [xuL_o (by omega)] at hh | rw [va_up_o (by omega)] at hh)); (repeat (first | rw [xuI_o (by omega)] | rw [xuL_o (by omega)] | rw [va_up_o (by omega)])); exact hh)) (fgl := fun c hc => by first | exact he.fgl c hc | (have hh := he.fgl c hc; (try unfold zq at hh); (try unfold zd at hh); (try unfold zf at hh); (try unfold zo at hh); (try unfold zo); (try unfold zh at hh); (try unfold zh); (try unfold zq); (try unfold zd); (try unfold zf); (try dsimp only at hh); (try dsimp only); (repeat (first | rw [xuI_o (by omega)] at hh | rw [xuL_o (by omega)] at hh | rw [va_up_o (by omega)] at hh)); (repeat (first | rw [xuI_o (by omega)] | rw [xuL_o (by omega)] | rw [va_up_o (by omega)])); exact hh)) (ht := he.ht) (hg := fun c hc => by first | exact he.hg c hc | (have hh := he.hg c hc; (try unfold zq at hh); (try unfold zd at hh); (try unfold zf at hh); (try unfold zo at hh); (try unfold zo); (try unfold zh at hh); (try unfold zh); (try unfold zq); (try unfold zd); (try unfold zf); (try dsimp only at hh); (try dsimp only); (repeat (first | rw [xuI_o (by omega)] at hh | rw [xuL_o (by omega)] at hh | rw [va_up_o (by omega)] at hh)); (repeat (first | rw [xuI_o (by omega)] | rw [xuL_o (by omega)] | rw [va_up_o (by omega)])); exact hh)) (hgl := fun c hc => by first | exact he.hgl c hc | (have hh := he.hgl c hc; (try unfold zq at hh); (try unfold zd at hh); (try unfold zf at hh); (try unfold zo at hh); (try unfold zo); (try unfold zh at hh); (try unfold zh); (try unfold zq); (try unfold zd); (try unfold zf); (try dsimp only at hh); (try dsimp only); (repeat (first | rw [xuI_o (by omega)] at hh | rw [xuL_o (by omega)] at hh | rw [va_up_o (by omega)] at hh)); (repeat (first | rw [xuI_o (by omega)] | rw [xuL_o (by omega)] | rw [va_up_o (by omega)])); exact hh)) (thr := he.thr) (row := he.row) (itself := he.itself) (now := he.now) (term := he.term) (voted := he.voted) (base := he.base) (last := he.last) (baseTerm := he.baseTerm) (baseCode := he.baseCode) (snapshot := he.snapshot) (dirty := he.dirty) (role := he.role) (leader := he.leader) (commit := he.commit) (applied := he.applied) (synced := he.synced) (heard := he.heard) (alarm := he.alarm) (votes := he.votes) (handing := rfl) (handed := he.handed) (first := he.first) (round := he.round) (assembly := he.assembly) (described := he.described) (toldBase := he.toldBase) (toldTerm := he.toldTerm) (toldCode := he.toldCode) (toldSize := he.toldSize) (told := he.told) (waits := he.waits) (went := he.went) (done := he.done) (calls := he.calls) (next := he.next) (mtch := he.mtch) (flying := he.flying) (offset := he.offset) (ack := he.ack) (seen := he.seen) (probing := he.probing) (answered := he.answered) (toldTerms := he.toldTerms) (toldKinds := he.toldKinds) (toldValues := he.toldValues) (doneNumbers := he.doneNumbers) (doneValues := he.doneValues) (callState := he.callState) (callNumber := he.callNumber) (got := he.got) (log := he.log) (kept := he.kept) (wait := he.wait) (cls := he.cls))) ((RI.mk (itself := hi.itself) (role := hi.role) (base := hi.base) (ba := hi.ba) (ac := hi.ac) (cl := hi.cl) (lb := hi.lb) (last := hi.last) (syn := hi.syn) (dirty := hi.dirty) (desc := hi.desc) (now := hi.now) (term := hi.term) (went := hi.went) (waits := hi.waits) (done := hi.done) (calls := hi.calls) (told := hi.told) (round := hi.round) (hand := Or.inl rfl) (heard := hi.heard) (vote := hi.vote) (lead := hi.lead) (quiet := hi.quiet) (cmd := hi.cmd) (tt := hi.tt) (tb := hi.tb) (got := hi.got) (mem := hi.mem))) hr hn
def zo (μ : XMu) (p q : Int32) : XMu := (μ.1, xuI (xuI μ.2.1 11 8 p) 11 9 q, μ.2.2)
theorem lead_loop {g h : XMu} (p q : Int32) : ∀ (r f : Nat) (a b x : Int32) (n : Nat) (μ ν : XMu), RE g h (zo μ p q) ν → RI n (μ.1, xuI μ.2.1 0 9 2, μ.2.2) → n ≤ 1000000 → (μ.2.1 0 9) = 3 → a = (μ.2.1 28 9) + 1 → b = (μ.2.1 0 8) → 0 ≤ x.toInt → x.toInt + r = 7 → r < f → (∀ j : Nat, j < 7 → (j : Int) < x.toInt → (μ.2.1 12) j = a ∧ (μ.2.1 13) j = 0 ∧ (μ.2.1 14) j = 0 ∧ (μ.2.1 17) j = 0 ∧ (μ.2.1 18) j = b) → ∃ μ' ν', yLe_begin_b12_L f a b x μ = some (.inl none, μ') ∧ yM_lead_b45_L f x ν = yM_lead_b121 ν' ∧ RE g h (zo μ' p q) ν' ∧ RI n (μ'.1, xuI μ'.2.1 0 9 2, μ'.2.2) ∧ (μ'.2.1 0 9) = 3 ∧ (μ'.2.1 28 9) = (μ.2.1 28 9) ∧ (μ'.2.1 28 5) = (μ.2.1 28 5) ∧ (μ'.2.1 0 8) = (μ.2.1 0 8) ∧ (μ'.2.1 28 3) = (μ.2.1 28 3) ∧ (μ'.2.1 11 8) = (μ.2.1 11 8) ∧ (μ'.2.1 11 9) = (μ.2.1 11 9) ∧ (∀ j : Nat, j < 7 → (μ'.2.1 12) j = a ∧ (μ'.2.1 13) j = 0 ∧ (μ'.2.1 14) j = 0 ∧ (μ'.2.1 17) j = 0 ∧ (μ'.2.1 18) j = b) := by
  intro r
  induction r with
  | zero =>
    intro f a b x n μ ν he hi hn hr ha hb hx hxr hf hj
    obtain ⟨f, rfl⟩ : ∃ f', f = f' + 1 := ⟨f - 1, by omega⟩
    unfold yLe_begin_b12_L yLe_begin_b12 yM_lead_b45_L yM_lead_b45
    have hc : (7 : Int32) ≤ x := by rw [Int32.le_iff_toInt_le, il_7]; omega
    rw [if_pos hc, if_pos hc]
    exact ⟨μ, ν, rfl, rfl, he, hi, hr, rfl, rfl, rfl, rfl, rfl, rfl, fun j hj2 => hj j hj2 (by omega)⟩
  | succ r ih =>
    intro f a b x n μ ν he hi hn hr ha hb hx hxr hf hj
    obtain ⟨f, rfl⟩ : ∃ f', f = f' + 1 := ⟨f - 1, by omega⟩
    subst ha hb
    unfold yLe_begin_b12_L yLe_begin_b12 yM_lead_b45_L yM_lead_b45
    have hc : ¬ (7 : Int32) ≤ x := by rw [Int32.le_iff_toInt_le, il_7]; omega
    have e5 := inc_i (n := x) (by omega)
    have t1 := tn_of hx
    have xi := xin_of (i := x) (n := 7) hx (by omega)
    rw [if_neg hc, if_neg hc, xgd_t xi, xgd_t xi, xgd_t xi, xgd_t xi, xgd_t xi, xgd_t xi, xgd_t xi, xgd_t xi, xgd_t xi, xgd_t xi, xgd_t xi, xgd_t xi, xgd_t xi, xgd_t xi, xgd_t xi, xgd_t xi, show (ν.2.1 32 10) = (μ.2.1 28 9) from he.last, show (ν.2.1 32 3) = (μ.2.1 0 8) from he.now]
    refine ih f ((μ.2.1 28 9) + 1) (μ.2.1 0 8) (x + 1) n _ _ ?_ ?_ hn ?_ ?_ ?_ (by omega) (by omega) (by omega) ?_
    · exact (RE.mk (ft := he.ft) (fg := fun c hc => by first | exact he.fg c hc | (have hh := he.fg c hc; (try unfold zq at hh); (try unfold zd at hh); (try unfold zf at hh); (try unfold zo at hh); (try unfold zo); (try unfold zh at hh); (try unfold zh); (try unfold zq); (try unfold zd); (try unfold zf); (try dsimp only at hh); (try dsimp only); (repeat (first | rw [xuI_o (by omega)] at hh | rw [xuL_o (by omega)] at hh | rw [va_up_o (by omega)] at hh)); (repeat (first | rw [xuI_o (by omega)] | rw [xuL_o (by omega)] | rw [va_up_o (by omega)])); exact hh)) (fgl := fun c hc => by first | exact he.fgl c hc | (have hh := he.fgl c hc; (try unfold zq at hh); (try unfold zd at hh); (try unfold zf at hh); (try unfold zo at hh); (try unfold zo); (try unfold zh at hh); (try unfold zh); (try unfold zq); (try unfold zd); (try unfold zf); (try dsimp only at hh); (try dsimp only); (repeat (first | rw [xuI_o (by omega)] at hh | rw [xuL_o (by omega)] at hh | rw [va_up_o (by omega)] at hh)); (repeat (first | rw [xuI_o (by omega)] | rw [xuL_o (by omega)] | rw [va_up_o (by omega)])); exact hh)) (ht := he.ht) (hg := fun c hc => by first | exact he.hg c hc | (have hh := he.hg c hc; (try unfold zq at hh); (try unfold zd at hh); (try unfold zf at hh); (try unfold zo at hh); (try unfold zo); (try unfold zh at hh); (try unfold zh); (try unfold zq); (try unfold zd); (try unfold zf); (try dsimp only at hh); (try dsimp only); (repeat (first | rw [xuI_o (by omega)] at hh | rw [xuL_o (by omega)] at hh | rw [va_up_o (by omega)] at hh)); (repeat (first | rw [xuI_o (by omega)] | rw [xuL_o (by omega)] | rw [va_up_o (by omega)])); exact hh)) (hgl := fun c hc => by first | exact he.hgl c hc | (have hh := he.hgl c hc; (try unfold zq at hh); (try unfold zd at hh); (try unfold zf at hh); (try unfold zo at hh); (try unfold zo); (try unfold zh at hh); (try unfold zh); (try unfold zq); (try unfold zd); (try unfold zf); (try dsimp only at hh); (try dsimp only); (repeat (first | rw [xuI_o (by omega)] at hh | rw [xuL_o (by omega)] at hh | rw [va_up_o (by omega)] at hh)); (repeat (first | rw [xuI_o (by omega)] | rw [xuL_o (by omega)] | rw [va_up_o (by omega)])); exact hh)) (thr := he.thr) (row := he.row) (itself := he.itself) (now := he.now) (term := he.term) (voted := he.voted) (base := he.base) (last := he.last) (baseTerm := he.baseTerm) (baseCode := he.baseCode) (snapshot := he.snapshot) (dirty := he.dirty) (role := he.role) (leader := he.leader) (commit := he.commit) (applied := he.applied) (synced := he.synced) (heard := he.heard) (alarm := he.alarm) (votes := he.votes) (handing := he.handing) (handed := he.handed) (first := he.first) (round := he.round) (assembly := he.assembly) (described := he.described) (toldBase := he.toldBase) (toldTerm := he.toldTerm) (toldCode := he.toldCode) (toldSize := he.toldSize) (told := he.told) (waits := he.waits) (went := he.went) (done := he.done) (calls := he.calls) (next := congrArg (fun F => upd F x.toNatClampNeg ((μ.2.1 28 9) + 1)) he.next) (mtch := congrArg (fun F => upd F x.toNatClampNeg 0) he.mtch) (flying := congrArg (fun F => upd F x.toNatClampNeg 0) he.flying) (offset := congrArg (fun F => upd F x.toNatClampNeg 0) he.offset) (ack := congrArg (fun F => upd F x.toNatClampNeg 0) he.ack) (seen := congrArg (fun F => upd F x.toNatClampNeg (μ.2.1 0 8)) he.seen) (probing := congrArg (fun F => upd F x.toNatClampNeg 1) he.probing) (answered := congrArg (fun F => upd F x.toNatClampNeg 0) he.answered) (toldTerms := he.toldTerms) (toldKinds := he.toldKinds) (toldValues := he.toldValues) (doneNumbers := he.doneNumbers) (doneValues := he.doneValues) (callState := he.callState) (callNumber := he.callNumber) (got := he.got) (log := he.log) (kept := he.kept) (wait := he.wait) (cls := he.cls))
    · exact (RI.mk (itself := hi.itself) (role := hi.role) (base := hi.base) (ba := hi.ba) (ac := hi.ac) (cl := hi.cl) (lb := hi.lb) (last := hi.last) (syn := hi.syn) (dirty := hi.dirty) (desc := hi.desc) (now := hi.now) (term := hi.term) (went := hi.went) (waits := hi.waits) (done := hi.done) (calls := hi.calls) (told := hi.told) (round := hi.round) (hand := hi.hand) (heard := hi.heard) (vote := hi.vote) (lead := fun k => by cases k) (quiet := hi.quiet) (cmd := hi.cmd) (tt := hi.tt) (tb := hi.tb) (got := hi.got) (mem := hi.mem))
    · exact hr
    · rfl
    · rfl
    intro j hj1 hj2
    show upd (μ.2.1 12) x.toNatClampNeg ((μ.2.1 28 9) + 1) j = (μ.2.1 28 9) + 1 ∧ upd (μ.2.1 13) x.toNatClampNeg 0 j = 0 ∧ upd (μ.2.1 14) x.toNatClampNeg 0 j = 0 ∧ upd (μ.2.1 17) x.toNatClampNeg 0 j = 0 ∧ upd (μ.2.1 18) x.toNatClampNeg (μ.2.1 0 8) j = (μ.2.1 0 8)
    by_cases hjx : j = x.toNatClampNeg
    · rw [hjx, upd_s, upd_s, upd_s, upd_s, upd_s]
      exact ⟨rfl, rfl, rfl, rfl, rfl⟩
    · rw [upd_o hjx, upd_o hjx, upd_o hjx, upd_o hjx, upd_o hjx]
      exact hj j hj1 (by omega)
theorem P_lead {g h μ ν : XMu} {n : Nat} (he : RE g h μ ν) (hi : RI n μ) (hr : (μ.2.1 0 9) = 2) (hn : n + 38 ≤ 1000000) : Pv g h (n + 38) (yC_takeLead μ) (yM_lead ν) := by
  have hlb := hi.LB (by omega)
  obtain ⟨b1, b2, b3, b4⟩ := id hlb
  have e2 : ((μ.2.1 28 9) - (μ.2.1 28 5)).toInt = (μ.2.1 28 9).toInt - (μ.2.1 28 5).toInt := i32_sub (by omega) (by omega)
  have hnr : ¬ (μ.2.1 0 9) = 3 := by rw [hr]; decide
  unfold yC_takeLead yM_lead yDi_hasRoom
  rw [he.last, he.base]
  by_cases hroom : (300 : Int32) ≤ (μ.2.1 28 9) - (μ.2.1 28 5)
  · rw [if_pos hroom, if_neg (fun k => k rfl)]
    rw [if_neg (by rw [Int32.le_iff_toInt_le] at hroom; rw [Int32.lt_iff_toInt_lt]; omega), he.term]
    exact ((P_stepDown he hi _ _ (hi.term.2)).tail).mono (by omega)
  · rw [if_neg hroom, if_pos (show ¬ (1 : Int32) = 0 by decide)]
    rw [Int32.le_iff_toInt_le, il_300] at hroom
    rw [if_pos (by rw [Int32.lt_iff_toInt_lt, il_300]; omega)]
    unfold yLe_begin
    rw [he.itself]
    have e := inc_i (n := (μ.2.1 28 9)) (by omega)
    obtain ⟨μ1, ν1, o1, o2, he1, hi1, hr1, s1, s2, s3, s4, s5, s6, hj⟩ := lead_loop (g := g) (h := h) (μ.2.1 11 8) (μ.2.1 11 9) 7 1000 ((μ.2.1 28 9) + 1) (μ.2.1 0 8) 0 n (μ.1, xuI (xuI (xuI (xuI (xuI μ.2.1 0 9 3) 0 10 (μ.2.1 0 0)) 0 16 (-1)) 11 8 ((μ.2.1 28 9) + 1)) 11 9 0, μ.2.2) (ν.1, xuI (xuI (xuI ν.2.1 32 15 3) 32 16 (μ.2.1 0 0)) 32 23 (-1), ν.2.2) ((RE.mk (ft := he.ft) (fg := fun c hc => by first | exact he.fg c hc | (have hh := he.fg c hc; (try unfold zq at hh); (try unfold zd at hh); (try unfold zf at hh); (try unfold zo at hh); (try unfold zo); (try unfold zh at hh); (try unfold zh); (try unfold zq); (try unfold zd); (try unfold zf); (try dsimp only at hh); (try dsimp only); (repeat (first | rw [xuI_o (by omega)] at hh | rw [xuL_o (by omega)] at hh | rw [va_up_o (by omega)] at hh)); (repeat (first | rw [xuI_o (by omega)] | rw [xuL_o (by omega)] | rw [va_up_o (by omega)])); exact hh)) (fgl := fun c hc => by first | exact he.fgl c hc | (have hh := he.fgl c hc; (try unfold zq at hh); (try unfold zd at hh); (try unfold zf at hh); (try unfold zo at hh); (try unfold zo); (try unfold zh at hh); (try unfold zh); (try unfold zq); (try unfold zd); (try unfold zf); (try dsimp only at hh); (try dsimp only); (repeat (first | rw [xuI_o (by omega)] at hh | rw [xuL_o (by omega)] at hh | rw [va_up_o (by omega)] at hh)); (repeat (first | rw [xuI_o (by omega)] | rw [xuL_o (by omega)] | rw [va_up_o (by omega)])); exact hh)) (ht := he.ht) (hg := fun c hc => by first | exact he.hg c hc | (have hh := he.hg c hc; (try unfold zq at hh); (try unfold zd at hh); (try unfold zf at hh); (try unfold zo at hh); (try unfold zo); (try unfold zh at hh); (try unfold zh); (try unfold zq); (try unfold zd); (try unfold zf); (try dsimp only at hh); (try dsimp only); (repeat (first | rw [xuI_o (by omega)] at hh | rw [xuL_o (by omega)] at hh | rw [va_up_o (by omega)] at hh)); (repeat (first | rw [xuI_o (by omega)] | rw [xuL_o (by omega)] | rw [va_up_o (by omega)])); exact hh)) (hgl := fun c hc => by first | exact he.hgl c hc | (have hh := he.hgl c hc; (try unfold zq at hh); (try unfold zd at hh); (try unfold zf at hh); (try unfold zo at hh); (try unfold zo); (try unfold zh at hh); (try unfold zh); (try unfold zq); (try unfold zd); (try unfold zf); (try dsimp only at hh); (try dsimp only); (repeat (first | rw [xuI_o (by omega)] at hh | rw [xuL_o (by omega)] at hh | rw [va_up_o (by omega)] at hh)); (repeat (first | rw [xuI_o (by omega)] | rw [xuL_o (by omega)] | rw [va_up_o (by omega)])); exact hh)) (thr := he.thr) (row := he.row) (itself := he.itself) (now := he.now) (term := he.term) (voted := he.voted) (base := he.base) (last := he.last) (baseTerm := he.baseTerm) (baseCode := he.baseCode) (snapshot := he.snapshot) (dirty := he.dirty) (role := rfl) (leader := rfl) (commit := he.commit) (applied := he.applied) (synced := he.synced) (heard := he.heard) (alarm := he.alarm) (votes := he.votes) (handing := rfl) (handed := he.handed) (first := he.first) (round := he.round) (assembly := he.assembly) (described := he.described) (toldBase := he.toldBase) (toldTerm := he.toldTerm) (toldCode := he.toldCode) (toldSize := he.toldSize) (told := he.told) (waits := he.waits) (went := he.went) (done := he.done) (calls := he.calls) (next := he.next) (mtch := he.mtch) (flying := he.flying) (offset := he.offset) (ack := he.ack) (seen := he.seen) (probing := he.probing) (answered := he.answered) (toldTerms := he.toldTerms) (toldKinds := he.toldKinds) (toldValues := he.toldValues) (doneNumbers := he.doneNumbers) (doneValues := he.doneValues) (callState := he.callState) (callNumber := he.callNumber) (got := he.got) (log := he.log) (kept := he.kept) (wait := he.wait) (cls := he.cls))) ((RI.mk (itself := hi.itself) (role := Or.inr (Or.inr (Or.inl rfl))) (base := hi.base) (ba := hi.ba) (ac := hi.ac) (cl := hi.cl) (lb := hi.lb) (last := hi.last) (syn := hi.syn) (dirty := hi.dirty) (desc := hi.desc) (now := hi.now) (term := hi.term) (went := hi.went) (waits := hi.waits) (done := hi.done) (calls := hi.calls) (told := hi.told) (round := ⟨by show 0 ≤ (0 : Int32).toInt; decide, by show (0 : Int32).toInt ≤ _; rw [il_0]; omega⟩) (hand := Or.inl rfl) (heard := hi.heard) (vote := fun _ => hi.vote (Or.inl hr)) (lead := fun k => by cases k) (quiet := fun _ => hi.quiet hnr) (cmd := hi.cmd) (tt := hi.tt) (tb := hi.tb) (got := hi.got) (mem := hi.mem))) (by omega) rfl rfl rfl (by decide) (by decide) (by omega) (fun j _ h => by rw [il_0] at h; omega)
    have s1' : (μ1.2.1 28 9) = (μ.2.1 28 9) := s1
    have s2' : (μ1.2.1 28 5) = (μ.2.1 28 5) := s2
    have s5' : (μ1.2.1 11 8) = (μ.2.1 28 9) + 1 := s5
    have s6' : (μ1.2.1 11 9) = 0 := s6
    have hq := hi1.quiet (show ¬ (2 : Int32) = 3 by decide)
    rw [o1, o2, xbv_s]
    unfold yM_lead_b121
    have q1 : (ν1.2.1 32 10) = (μ1.2.1 28 9) := he1.last
    have q2 : (ν1.2.1 32 4) = (μ1.2.1 28 3) := he1.term
    have nw := hi1.now
    rw [q1, q2]
    refine Pw.bindv (P_write (n := n) (μ := μ1) ?_ ?_ (by omega) (by rw [s1', s2']; omega) _ _ _) fun μ2 ν2 he2 hi2 hw => ?_
    · exact (RE.mk (ft := he1.ft) (fg := fun c hc => by first | exact he1.fg c hc | (have hh := he1.fg c hc; (try unfold zq at hh); (try unfold zd at hh); (try unfold zf at hh); (try unfold zo at hh); (try unfold zo); (try unfold zh at hh); (try unfold zh); (try unfold zq); (try unfold zd); (try unfold zf); (try dsimp only at hh); (try dsimp only); (repeat (first | rw [xuI_o (by omega)] at hh | rw [xuL_o (by omega)] at hh | rw [va_up_o (by omega)] at hh)); (repeat (first | rw [xuI_o (by omega)] | rw [xuL_o (by omega)] | rw [va_up_o (by omega)])); exact hh)) (fgl := fun c hc => by first | exact he1.fgl c hc | (have hh := he1.fgl c hc; (try unfold zq at hh); (try unfold zd at hh); (try unfold zf at hh); (try unfold zo at hh); (try unfold zo); (try unfold zh at hh); (try unfold zh); (try unfold zq); (try unfold zd); (try unfold zf); (try dsimp only at hh); (try dsimp only); (repeat (first | rw [xuI_o (by omega)] at hh | rw [xuL_o (by omega)] at hh | rw [va_up_o (by omega)] at hh)); (repeat (first | rw [xuI_o (by omega)] | rw [xuL_o (by omega)] | rw [va_up_o (by omega)])); exact hh)) (ht := he1.ht) (hg := fun c hc => by first | exact he1.hg c hc | (have hh := he1.hg c hc; (try unfold zq at hh); (try unfold zd at hh); (try unfold zf at hh); (try unfold zo at hh); (try unfold zo); (try unfold zh at hh); (try unfold zh); (try unfold zq); (try unfold zd); (try unfold zf); (try dsimp only at hh); (try dsimp only); (repeat (first | rw [xuI_o (by omega)] at hh | rw [xuL_o (by omega)] at hh | rw [va_up_o (by omega)] at hh)); (repeat (first | rw [xuI_o (by omega)] | rw [xuL_o (by omega)] | rw [va_up_o (by omega)])); exact hh)) (hgl := fun c hc => by first | exact he1.hgl c hc | (have hh := he1.hgl c hc; (try unfold zq at hh); (try unfold zd at hh); (try unfold zf at hh); (try unfold zo at hh); (try unfold zo); (try unfold zh at hh); (try unfold zh); (try unfold zq); (try unfold zd); (try unfold zf); (try dsimp only at hh); (try dsimp only); (repeat (first | rw [xuI_o (by omega)] at hh | rw [xuL_o (by omega)] at hh | rw [va_up_o (by omega)] at hh)); (repeat (first | rw [xuI_o (by omega)] | rw [xuL_o (by omega)] | rw [va_up_o (by omega)])); exact hh)) (thr := he1.thr) (row := he1.row) (itself := he1.itself) (now := he1.now) (term := he1.term) (voted := he1.voted) (base := he1.base) (last := he1.last) (baseTerm := he1.baseTerm) (baseCode := he1.baseCode) (snapshot := he1.snapshot) (dirty := he1.dirty) (role := he1.role) (leader := he1.leader) (commit := he1.commit) (applied := he1.applied) (synced := he1.synced) (heard := he1.heard) (alarm := he1.alarm) (votes := he1.votes) (handing := he1.handing) (handed := he1.handed) (first := by show (μ1.2.1 28 9) + 1 = (μ1.2.1 11 8); rw [s5', s1']) (round := s6'.symm) (assembly := he1.assembly) (described := he1.described) (toldBase := he1.toldBase) (toldTerm := he1.toldTerm) (toldCode := he1.toldCode) (toldSize := he1.toldSize) (told := he1.told) (waits := he1.waits) (went := he1.went) (done := he1.done) (calls := he1.calls) (next := he1.next) (mtch := he1.mtch) (flying := he1.flying) (offset := he1.offset) (ack := he1.ack) (seen := he1.seen) (probing := he1.probing) (answered := he1.answered) (toldTerms := he1.toldTerms) (toldKinds := he1.toldKinds) (toldValues := he1.toldValues) (doneNumbers := he1.doneNumbers) (doneValues := he1.doneValues) (callState := he1.callState) (callNumber := he1.callNumber) (got := he1.got) (log := he1.log) (kept := he1.kept) (wait := he1.wait) (cls := he1.cls))
    · refine (RI.mk (itself := hi1.itself) (role := Or.inr (Or.inr (Or.inr hr1))) (base := hi1.base) (ba := hi1.ba) (ac := hi1.ac) (cl := hi1.cl) (lb := hi1.lb) (last := hi1.last) (syn := hi1.syn) (dirty := hi1.dirty) (desc := hi1.desc) (now := hi1.now) (term := hi1.term) (went := hi1.went) (waits := hi1.waits) (done := hi1.done) (calls := hi1.calls) (told := hi1.told) (round := hi1.round) (hand := hi1.hand) (heard := hi1.heard) (vote := fun _ => hi1.vote (Or.inl rfl)) (lead := fun _ j hj2 => ?_) (quiet := fun k => absurd hr1 k) (cmd := fun j h1 h2 h3 => absurd h3 (hq j h1 h2)) (tt := hi1.tt) (tb := hi1.tb) (got := hi1.got) (mem := hi1.mem))
      obtain ⟨a1, a2, a3, a4, a5⟩ := hj j hj2
      rw [a1, a2, a3, a4, a5, il_0, s1']
      have nw2 : 0 ≤ (μ1.2.1 0 8).toInt ∧ (μ1.2.1 0 8).toInt ≤ n := nw
      have s3' : (μ1.2.1 0 8) = (μ.2.1 0 8) := s3
      rw [s3'] at nw2
      omega
    · exact ((P_beat he2 hi2 (hw.1.trans hr1) (by omega)).tail).mono (by omega)
theorem z7_m {x : Int32} (h : z7 x) : x &&& 127 = x := by
  obtain ⟨k, hk, rfl⟩ := z7_of h
  have : ∀ k : Fin 128, Int32.ofNat k.val &&& 127 = Int32.ofNat k.val := by decide
  exact this ⟨k, hk⟩
theorem z7_s7 {x : Int32} (h : z7 x) : (128 : Int32) * x = x <<< ((7 : Int32) &&& 31) ∧ (127 : Int32) &&& (128 * x) = 0 ∧ (128 : Int32) * x &&& 16256 = 128 * x := by
  obtain ⟨k, hk, rfl⟩ := z7_of h
  have : ∀ k : Fin 128, (128 : Int32) * Int32.ofNat k.val = Int32.ofNat k.val <<< ((7 : Int32) &&& 31) ∧ (127 : Int32) &&& (128 * Int32.ofNat k.val) = 0 ∧ (128 : Int32) * Int32.ofNat k.val &&& 16256 = 128 * Int32.ofNat k.val := by decide
  exact this ⟨k, hk⟩
theorem z7_s14 {x : Int32} (h : z7 x) : (16384 : Int32) * x = x <<< ((14 : Int32) &&& 31) ∧ (127 : Int32) &&& (16384 * x) = 0 ∧ (16256 : Int32) &&& (16384 * x) = 0 := by
  obtain ⟨k, hk, rfl⟩ := z7_of h
  have : ∀ k : Fin 128, (16384 : Int32) * Int32.ofNat k.val = Int32.ofNat k.val <<< ((14 : Int32) &&& 31) ∧ (127 : Int32) &&& (16384 * Int32.ofNat k.val) = 0 ∧ (16256 : Int32) &&& (16384 * Int32.ofNat k.val) = 0 := by decide
  exact this ⟨k, hk⟩
theorem add_or {a b : Int32} (h : a &&& b = 0) : a + b = a ||| b := by
  rw [← Int32.toBitVec_inj, Int32.toBitVec_add, Int32.toBitVec_or]
  have h2 := congrArg Int32.toBitVec h
  rw [Int32.toBitVec_and] at h2
  exact BitVec.add_eq_or_of_and_eq_zero _ _ h2
theorem or_and0 {a b c : Int32} (h1 : a &&& c = 0) (h2 : b &&& c = 0) : (a ||| b) &&& c = 0 := by
  have e1 := congrArg Int32.toBitVec h1
  have e2 := congrArg Int32.toBitVec h2
  rw [Int32.toBitVec_and] at e1 e2
  rw [← Int32.toBitVec_inj, Int32.toBitVec_and, Int32.toBitVec_or]
  apply BitVec.eq_of_getLsbD_eq
  intro i hi
  have f1 := congrArg (fun x => BitVec.getLsbD x i) e1
  have f2 := congrArg (fun x => BitVec.getLsbD x i) e2
  rw [BitVec.getLsbD_and] at f1 f2
  rw [BitVec.getLsbD_and, BitVec.getLsbD_or, Bool.and_or_distrib_right, f1, f2]
  rw [show ((0 : Int32).toBitVec).getLsbD i = false from BitVec.getLsbD_zero]; rfl
theorem z7_and7 {x y : Int32} (hx : z7 x) (h : (127 : Int32) &&& y = 0) : x &&& y = 0 := by
  rw [← z7_m hx, Int32.and_assoc, h, Int32.and_zero]
theorem code_add3 {o f l : Int32} (ho : z7 o) (hf : z7 f) (hl : z7 l) : o + (128 : Int32) * f + (16384 : Int32) * l = yC_codeOf o f l := by
  unfold yC_codeOf
  obtain ⟨a1, a2, a3⟩ := z7_s7 hf
  obtain ⟨b1, b2, b3⟩ := z7_s14 hl
  have c1 : o &&& ((128 : Int32) * f) = 0 := z7_and7 ho a2
  have c2 : ((128 : Int32) * f) &&& ((16384 : Int32) * l) = 0 := by rw [← a3, Int32.and_assoc, b3, Int32.and_zero]
  rw [add_or c1, add_or (or_and0 (z7_and7 ho b2) c2), a1, b1]
theorem code_add {f l : Int32} (hf : z7 f) (hl : z7 l) : f + (16384 : Int32) * l = yC_codeOf f 0 l := by
  have := code_add3 hf (f := 0) ⟨by decide, by decide⟩ hl
  rw [← this, show (128 : Int32) * 0 = 0 by decide, Int32.add_zero]
theorem P_sendGo {g h μ ν : XMu} {n : Nat} (he : RE g h μ ν) (hi : RI n μ) (hn : n ≤ 1000000) (s : Int32) : Pw g h (n + 1) (Keep μ) (yC_sendGo s μ) (xbv (yM_begin s (9 : Int32) (ν.2.1 32 4) ν) (fun m3 => xbv (yM_send m3) (fun m4 => some (.inl none, m4)))) := by
  unfold yC_sendGo
  obtain ⟨d, d', p1, p2, z⟩ := L_begin μ ν s 9 (μ.2.1 28 3)
  rw [he.term, p1, p2, xbv_s, xbv_s, zμ_28]
  obtain ⟨X, Y, Z, w1, w2, w3, w4⟩ := L_post he hi hn z
  rw [w1, w2, xbv_s, xbv_s]
  exact Pw.ret w3 w4 ⟨rfl, rfl, rfl, rfl, rfl, rfl, rfl⟩
def Cnt (μ μ' : XMu) : Prop := (μ'.2.1 0 9) = 3 → Keep μ μ' ∨ ∀ j : Nat, j < 7 → ¬ (μ'.2.1 13) j = (μ'.2.1 28 9)
theorem P_count0 {g h μ ν : XMu} {n : Nat} (he : RE g h μ ν) (hi : RI n μ) (hr : (μ.2.1 0 9) = 3) (hn : n + 36 ≤ 1000000) : Pw g h (n + 36) (Cnt μ) (yC_countCommitted_b47 μ) (yM_count_b44 ν) := by
  have hb := hi.LB (by omega)
  obtain ⟨b1, b2, b3, b4⟩ := id hb
  obtain ⟨c1, c2⟩ := code_m he hb hi.mem
  have hiM := hi.mono (show n ≤ n + 36 by omega)
  unfold yC_countCommitted_b47 yM_count_b44
  rw [c2, xbi_s, he.commit]
  by_cases h1 : (μ.2.1 28 12) ≤ (μ.2.1 0 11)
  · rw [if_pos h1, if_pos h1, c1, xbi_s]
    by_cases h2 : yC_newOf (μ.2.1 28 13) = 0
    · rw [if_neg (not_not_intro h2), if_pos (show yM_fresh (μ.2.1 28 13) = 0 from h2), has_eq _ (by rw [he.itself]; exact hi.itself.1) (by rw [he.itself]; exact hi.itself.2), he.itself]
      by_cases h3 : yC_has (yC_oldOf (μ.2.1 28 13)) (μ.2.1 0 0) = 0
      · rw [if_neg (not_not_intro h3), if_neg (not_not_intro (show yC_has (yM_old (μ.2.1 28 13)) (μ.2.1 0 0) = 0 from h3)), he.term]
        exact (P_stepDownK he hi _ _ hi.term.2).tail.mono (by omega) (fun m hm k => by rw [hm.1] at k; cases k)
      · rw [if_pos h3, if_pos (show ¬ yC_has (yM_old (μ.2.1 28 13)) (μ.2.1 0 0) = 0 from h3)]
        exact Pw.ret he hiM (fun _ => Or.inl Keep.refl)
    · rw [if_pos h2, if_neg (show ¬ yM_fresh (μ.2.1 28 13) = 0 from h2), he.last, he.base]
      have e2 : ((μ.2.1 28 9) - (μ.2.1 28 5)).toInt = (μ.2.1 28 9).toInt - (μ.2.1 28 5).toInt := i32_sub (by omega) (by omega)
      unfold yDi_hasRoom
      by_cases h3 : (300 : Int32) ≤ (μ.2.1 28 9) - (μ.2.1 28 5)
      · rw [if_pos h3, if_pos rfl, if_pos h3]
        exact Pw.ret he hiM (fun _ => Or.inl Keep.refl)
      · rw [if_neg h3, if_neg (show ¬ (1 : Int32) = 0 by decide), if_neg h3, he.term]
        rw [Int32.le_iff_toInt_le, il_300] at h3
        have ce : yM_fresh (μ.2.1 28 13) + (16384 : Int32) * yM_learning (μ.2.1 28 13) = yC_codeOf (yC_newOf (μ.2.1 28 13)) 0 (yC_learnersOf (μ.2.1 28 13)) := code_add (z7_and _) (z7_and _)
        rw [ce]
        refine (P_write he hi (by omega) (by omega) _ _ _).bind fun μ1 ν1 he1 hi1 hw => ?_
        refine (P_sendAll he1 hi1 (hw.1.trans hr) (by omega) 0).tail.mono (by omega) (fun m hk _ => Or.inr fun j hj => ?_)
        rw [hk.2.2.2.2.2.1, hk.2.2.2.2.1, hw.2.2.2.1, hw.2.2.1]
        intro hh
        have := hi.lead hr j hj
        have e := inc_i (n := (μ.2.1 28 9)) (by omega)
        rw [← hh] at e
        omega
  · rw [if_neg h1, if_neg h1]
    exact Pw.ret he hiM (fun _ => Or.inl Keep.refl)
theorem P_count {g h μ ν : XMu} {n : Nat} (he : RE g h μ ν) (hi : RI n μ) (hr : (μ.2.1 0 9) = 3) (hn : n + 336 ≤ 1000000) : Pw g h (n + 336) (Cnt μ) (yC_countCommitted μ) (yM_count ν) := by
  have hb := hi.LB (by omega)
  obtain ⟨b1, b2, b3, b4⟩ := id hb
  have hac := hi.ac
  have hba := hi.ba
  obtain ⟨v, a1, a2, qr⟩ := agreed_13 he hb hi.mem (fun j hj => by have := hi.lead hr j hj; omega)
  unfold yC_countCommitted yM_count
  rw [he.role, if_pos hr, a1, a2, xbi_s, xbi_s, he.commit]
  have hv : v.toInt ≤ (μ.2.1 28 9).toInt := by
    rcases qr.2.1 with q | ⟨s, hs, q, _⟩
    · rw [q, il_0]; omega
    · have := hi.lead hr s hs
      rw [q]; exact this.2.1.2
  by_cases h1 : v ≤ (μ.2.1 0 11)
  · rw [if_pos h1, if_pos h1]
    exact (P_count0 he hi hr (by omega)).mono (by omega) (fun _ h => h)
  · rw [if_neg h1, if_neg h1]
    rw [Int32.le_iff_toInt_le] at h1
    rw [termAt_c hb (by omega) hv, termAt_m he hb (by omega) hv, xbi_s, xbi_s, he.term]
    by_cases h2 : zt μ v = (μ.2.1 28 3)
    · rw [if_neg (not_not_intro h2), if_neg (not_not_intro h2)]
      refine (P_apply (n := n) ?_ ?_ (by omega)).bind fun μ1 ν1 he1 hi1 hk => ?_
      · exact (RE.mk (ft := he.ft) (fg := fun c hc => by first | exact he.fg c hc | (have hh := he.fg c hc; (try unfold zq at hh); (try unfold zd at hh); (try unfold zf at hh); (try unfold zo at hh); (try unfold zo); (try unfold zh at hh); (try unfold zh); (try unfold zq); (try unfold zd); (try unfold zf); (try dsimp only at hh); (try dsimp only); (repeat (first | rw [xuI_o (by omega)] at hh | rw [xuL_o (by omega)] at hh | rw [va_up_o (by omega)] at hh)); (repeat (first | rw [xuI_o (by omega)] | rw [xuL_o (by omega)] | rw [va_up_o (by omega)])); exact hh)) (fgl := fun c hc => by first | exact he.fgl c hc | (have hh := he.fgl c hc; (try unfold zq at hh); (try unfold zd at hh); (try unfold zf at hh); (try unfold zo at hh); (try unfold zo); (try unfold zh at hh); (try unfold zh); (try unfold zq); (try unfold zd); (try unfold zf); (try dsimp only at hh); (try dsimp only); (repeat (first | rw [xuI_o (by omega)] at hh | rw [xuL_o (by omega)] at hh | rw [va_up_o (by omega)] at hh)); (repeat (first | rw [xuI_o (by omega)] | rw [xuL_o (by omega)] | rw [va_up_o (by omega)])); exact hh)) (ht := he.ht) (hg := fun c hc => by first | exact he.hg c hc | (have hh := he.hg c hc; (try unfold zq at hh); (try unfold zd at hh); (try unfold zf at hh); (try unfold zo at hh); (try unfold zo); (try unfold zh at hh); (try unfold zh); (try unfold zq); (try unfold zd); (try unfold zf); (try dsimp only at hh); (try dsimp only); (repeat (first | rw [xuI_o (by omega)] at hh | rw [xuL_o (by omega)] at hh | rw [va_up_o (by omega)] at hh)); (repeat (first | rw [xuI_o (by omega)] | rw [xuL_o (by omega)] | rw [va_up_o (by omega)])); exact hh)) (hgl := fun c hc => by first | exact he.hgl c hc | (have hh := he.hgl c hc; (try unfold zq at hh); (try unfold zd at hh); (try unfold zf at hh); (try unfold zo at hh); (try unfold zo); (try unfold zh at hh); (try unfold zh); (try unfold zq); (try unfold zd); (try unfold zf); (try dsimp only at hh); (try dsimp only); (repeat (first | rw [xuI_o (by omega)] at hh | rw [xuL_o (by omega)] at hh | rw [va_up_o (by omega)] at hh)); (repeat (first | rw [xuI_o (by omega)] | rw [xuL_o (by omega)] | rw [va_up_o (by omega)])); exact hh)) (thr := he.thr) (row := he.row) (itself := he.itself) (now := he.now) (term := he.term) (voted := he.voted) (base := he.base) (last := he.last) (baseTerm := he.baseTerm) (baseCode := he.baseCode) (snapshot := he.snapshot) (dirty := he.dirty) (role := he.role) (leader := he.leader) (commit := rfl) (applied := he.applied) (synced := he.synced) (heard := he.heard) (alarm := he.alarm) (votes := he.votes) (handing := he.handing) (handed := he.handed) (first := he.first) (round := he.round) (assembly := he.assembly) (described := he.described) (toldBase := he.toldBase) (toldTerm := he.toldTerm) (toldCode := he.toldCode) (toldSize := he.toldSize) (told := he.told) (waits := he.waits) (went := he.went) (done := he.done) (calls := he.calls) (next := he.next) (mtch := he.mtch) (flying := he.flying) (offset := he.offset) (ack := he.ack) (seen := he.seen) (probing := he.probing) (answered := he.answered) (toldTerms := he.toldTerms) (toldKinds := he.toldKinds) (toldValues := he.toldValues) (doneNumbers := he.doneNumbers) (doneValues := he.doneValues) (callState := he.callState) (callNumber := he.callNumber) (got := he.got) (log := he.log) (kept := he.kept) (wait := he.wait) (cls := he.cls))
      · exact (RI.mk (itself := hi.itself) (role := hi.role) (base := hi.base) (ba := hi.ba) (ac := by show (μ.2.1 0 12).toInt ≤ v.toInt; omega) (cl := hv) (lb := hi.lb) (last := hi.last) (syn := hi.syn) (dirty := hi.dirty) (desc := hi.desc) (now := hi.now) (term := hi.term) (went := hi.went) (waits := hi.waits) (done := hi.done) (calls := hi.calls) (told := hi.told) (round := hi.round) (hand := hi.hand) (heard := hi.heard) (vote := hi.vote) (lead := hi.lead) (quiet := hi.quiet) (cmd := hi.cmd) (tt := hi.tt) (tb := hi.tb) (got := hi.got) (mem := hi.mem))
      refine (P_count0 he1 hi1 (hk.1.trans hr) (by omega)).mono (by omega) (fun m hc k => ?_)
      rcases hc k with q | q
      · exact Or.inl (Keep.trans (Keep.trans ⟨rfl, rfl, rfl, rfl, rfl, rfl, rfl⟩ hk) q)
      · exact Or.inr q
    · rw [if_pos h2, if_pos h2]
      exact (P_count0 he hi hr (by omega)).mono (by omega) (fun _ h => h)
theorem P_goOn {g h μ ν : XMu} {n : Nat} (he : RE g h μ ν) (hi : RI n μ) (hr : (μ.2.1 0 9) = 3) (hn : n + 342 ≤ 1000000) {s : Int32} (hs : 0 ≤ s.toInt) (hs2 : s.toInt ≤ 6) (hp : ¬ yC_has (yC_peers μ) s = 0) : Pv g h (n + 342) (yC_goOnWith s μ) (yM_goOn s ν) := by
  have xi := xin_of (i := s) (n := 7) hs (by omega)
  have t1 := tn_of hs
  unfold yC_goOnWith yM_goOn
  refine Pw.bindv (P_count he hi hr (by omega)) fun μ1 ν1 he1 hi1 hc => ?_
  refine Pw.bindv (P_readsK he1 hi1 (by omega)) fun μ2 ν2 he2 hi2 hk => ?_
  rw [he2.role]
  have hiM := hi2.mono (show n + 336 ≤ n + 342 by omega)
  by_cases h3 : (μ2.2.1 0 9) = 3
  · rw [if_neg (not_not_intro h3), if_neg (not_not_intro h3), peers_m he2 (hi2.LB (by omega)) hi2.mem, xbi_s, has_eq _ hs hs2]
    by_cases hp2 : yC_has (yC_peers μ2) s = 0
    · rw [if_neg (not_not_intro hp2), if_pos hp2]
      unfold yM_goOn_b33
      rw [he2.role, if_neg (not_not_intro h3), he2.handing, he2.mtch, he2.last, xgd_t xi]
      rcases hc (hk.1.symm.trans h3) with q | q
      · rw [hk.peers, q.peers] at hp2
        exact absurd hp2 hp
      · have := q s.toNatClampNeg (by omega)
        rw [← hk.2.2.2.2.2.1, ← hk.2.2.2.2.1] at this
        rw [if_pos this]
        split <;> exact Pv.ret he2 hiM
    · rw [if_pos hp2, if_neg hp2]
      refine Pw.bindv (P_sendTo he2 hi2 h3 (by omega) hs hs2 0) fun μ3 ν3 he3 hi3 hk3 => ?_
      unfold yM_goOn_b33
      rw [he3.role, if_neg (not_not_intro (hk3.1.trans h3)), he3.handing, he3.mtch, he3.last, xgd_t xi, xgd_t xi]
      by_cases h4 : (μ3.2.1 0 16) = s
      · rw [if_neg (not_not_intro h4), if_neg (not_not_intro h4)]
        by_cases h5 : (μ3.2.1 13) s.toNatClampNeg = (μ3.2.1 28 9)
        · rw [if_neg (not_not_intro h5), if_neg (not_not_intro h5)]
          exact ((P_sendGo he3 hi3 (by omega) s).toPv.tailC).mono (by omega)
        · rw [if_pos h5, if_pos h5]
          exact Pv.ret he3 (hi3.mono (by omega))
      · rw [if_pos h4, if_pos h4]
        exact Pv.ret he3 (hi3.mono (by omega))
  · rw [if_pos h3, if_pos h3]
    unfold yM_goOn_b33
    rw [he2.role, if_pos h3]
    exact Pv.ret he2 hiM
