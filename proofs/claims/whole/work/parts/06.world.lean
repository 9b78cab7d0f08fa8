/-! The machine's states as worlds of the kit: cell k lies at B + k; the script at b. -/
def xtyk (t : FieldType) : Nat := match t with
  | .int => 0
  | .boolean => 1
  | .long => 2
  | .object _ => 3
  | .array _ => 3
  | _ => 9
def xcC (ci : Nat) : vw_C := vwCl.getD ci ("", TX0, 0)
def xcTy (ci : Nat) : Nat → FieldType := match ci with
  | 0 => tyX0
  | 1 => tyX1
  | 2 => tyX2
  | 3 => tyX3
  | 4 => tyX4
  | 5 => tyX5
  | 6 => tyX6
  | _ => tyX7
def xcOk (ci : Nat) : Prop := vwCl[ci]? = some (xcC ci) ∧ (∀ w ∈ u_ws (xcC ci).1 (xcC ci).2.1 (xcC ci).2.2, w ∈ lw_tbl) ∧ (∀ k, k < (xcC ci).2.2 → parseFieldDescriptor ((xcC ci).2.1 k).2.2.1 = some (xcTy ci k)) ∧
  (∀ a, a < (xcC ci).2.2 → ∀ b, b < (xcC ci).2.2 → a ≠ b → ((xcC ci).2.1 a).2.1 ≠ ((xcC ci).2.1 b).2.1) ∧ (xcC ci).2.2 = (xfk.getD ci []).length ∧ (∀ k, k < (xcC ci).2.2 → xtyk (xcTy ci k) = xfkind ci k)
theorem xc_0 : xcOk 0 := ⟨rfl, (show ∀ w ∈ wsX00, w ∈ lw_tbl by decide +kernel), tyX0_ok, nmX0, by decide +kernel, (show ∀ k, k < 5 → xtyk (tyX0 k) = xfkind 0 k by decide +kernel)⟩
theorem xc_1 : xcOk 1 := ⟨rfl, (show ∀ w ∈ wsX10, w ∈ lw_tbl by decide +kernel), tyX1_ok, nmX1, by decide +kernel, (show ∀ k, k < 3 → xtyk (tyX1 k) = xfkind 1 k by decide +kernel)⟩
theorem xc_2 : xcOk 2 := ⟨rfl, (show ∀ w ∈ wsX20, w ∈ lw_tbl by decide +kernel), tyX2_ok, nmX2, by decide +kernel, (show ∀ k, k < 14 → xtyk (tyX2 k) = xfkind 2 k by decide +kernel)⟩
theorem xc_3 : xcOk 3 := ⟨rfl, (show ∀ w ∈ wsX30, w ∈ lw_tbl by decide +kernel), tyX3_ok, nmX3, by decide +kernel, (show ∀ k, k < 10 → xtyk (tyX3 k) = xfkind 3 k by decide +kernel)⟩
theorem xc_4 : xcOk 4 := ⟨rfl, (show ∀ w ∈ wsX40, w ∈ lw_tbl by decide +kernel), tyX4_ok, nmX4, by decide +kernel, (show ∀ k, k < 8 → xtyk (tyX4 k) = xfkind 4 k by decide +kernel)⟩
theorem xc_5 : xcOk 5 := ⟨rfl, (show ∀ w ∈ wsX50, w ∈ lw_tbl by decide +kernel), tyX5_ok, nmX5, by decide +kernel, (show ∀ k, k < 9 → xtyk (tyX5 k) = xfkind 5 k by decide +kernel)⟩
theorem xc_6 : xcOk 6 := ⟨rfl, (show ∀ w ∈ wsX60, w ∈ lw_tbl by decide +kernel), tyX6_ok, nmX6, by decide +kernel, (show ∀ k, k < 20 → xtyk (tyX6 k) = xfkind 6 k by decide +kernel)⟩
theorem xc_7 : xcOk 7 := ⟨rfl, (show ∀ w ∈ wsX70, w ∈ lw_tbl by decide +kernel), tyX7_ok, nmX7, by decide +kernel, (show ∀ k, k < 60 → xtyk (tyX7 k) = xfkind 7 k by decide +kernel)⟩
theorem xc_ok : ∀ ci, ci < 8 → xcOk ci := by
  intro ci h
  match ci, h with
  | 0, _ => exact xc_0
  | 1, _ => exact xc_1
  | 2, _ => exact xc_2
  | 3, _ => exact xc_3
  | 4, _ => exact xc_4
  | 5, _ => exact xc_5
  | 6, _ => exact xc_6
  | 7, _ => exact xc_7
  | n + 8, h => exact absurd h (by omega)
/-- an object's class is one of the eight -/
theorem xk_cls : ∀ k, k < 57 → (xkind k).1 = 0 → (xkind k).2 < 8 := by decide +kernel
theorem xk_len : xk.length = 57 := by decide +kernel
def xordT : List (Nat × Nat) := [(1, 0), (1, 2), (1, 3), (1, 5), (1, 6), (0, 2), (7, 0), (7, 1), (7, 2), (0, 3), (11, 0), (11, 1), (11, 2), (11, 3), (11, 4), (11, 5), (11, 6), (11, 7), (0, 4), (20, 0), (20, 1), (20, 2), (20, 3), (0, 5), (25, 0), (25, 1), (0, 6), (28, 0), (28, 1), (28, 2), (0, 1), (32, 6), (32, 7), (32, 8), (32, 27), (32, 28), (32, 29), (32, 30), (32, 31), (32, 32), (32, 33), (32, 34), (32, 43), (32, 44), (32, 45), (32, 46), (32, 48), (32, 51), (32, 53), (32, 54), (32, 56), (32, 57), (32, 58), (32, 59)]
theorem xord_ok : ∀ k, k < 57 → ∀ j, j < 60 → (xref k j).1 = 1000 ∨ ((xref k j).1 < 1000 ∧ xordT.getD (xref k j).1 (99, 99) = (k, j)) := by decide +kernel
theorem xrf_len : ∀ k, k < 57 → (xrf.getD k []).length ≤ 60 := by decide +kernel
theorem xrf_n : xrf.length = 57 := by decide +kernel
theorem xgetD_hi {α : Type} {l : List α} {i : Nat} {d : α} (h : l.length ≤ i) : l.getD i d = d := by
  rw [List.getD_eq_getElem?_getD, List.getElem?_eq_none h]; rfl
theorem xref_big {k j : Nat} (h : (xref k j).1 ≠ 1000) : k < 57 ∧ j < 60 := by
  constructor
  · rcases Nat.lt_or_ge k 57 with q | q
    · exact q
    · exfalso; apply h
      unfold xref
      rw [xgetD_hi (l := xrf) (by rw [xrf_n]; exact q)]
      rfl
  · rcases Nat.lt_or_ge j 60 with q | q
    · exact q
    · exfalso; apply h
      unfold xref
      rw [xgetD_hi]
      rcases Nat.lt_or_ge k 57 with q2 | q2
      · exact Nat.le_trans (xrf_len k q2) q
      · rw [xgetD_hi (l := xrf) (by rw [xrf_n]; exact q2)]; exact Nat.zero_le _
/-- a reference's turn names it -/
theorem xref_one {k j k' j' n : Nat} (h1 : (xref k j).1 = n) (h2 : (xref k' j').1 = n) (hn : n ≠ 1000) : k = k' ∧ j = j' := by
  obtain ⟨a1, a2⟩ := xref_big (k := k) (j := j) (by rw [h1]; exact hn)
  obtain ⟨b1, b2⟩ := xref_big (k := k') (j := j') (by rw [h2]; exact hn)
  rcases xord_ok k a1 j a2 with q | ⟨-, q⟩
  · exact absurd (h1.symm.trans q) hn
  · rcases xord_ok k' b1 j' b2 with r | ⟨-, r⟩
    · exact absurd (h2.symm.trans r) hn
    · rw [h1] at q; rw [h2] at r
      have e := q.symm.trans r
      exact ⟨congrArg Prod.fst e, congrArg Prod.snd e⟩
section XW
variable (b B : Nat) (cI cZ cJ : ClassId)
def xad (k : Nat) : Nat := if k = 1000 then b else B + k
def xtr (v : Value) : Value := match v with
  | .ref k => .ref (xad b B k)
  | w => w
def xwf (σ : XS) (k ci j : Nat) : Value := match xfkind ci j with
  | 0 => .int (σ.2.2.2.1 k j)
  | 1 => .int (σ.2.2.2.1 k j)
  | 2 => .long (σ.2.2.2.2 k j)
  | _ => bif Nat.blt (xref k j).1 σ.2.1 then .ref (B + (xref k j).2) else .null
def xwe (σ : XS) (k : Nat) : va_E := match xkind k with
  | (0, ci) => .inr (ci, (List.range (xfk.getD ci []).length).map (xwf B σ k ci))
  | (1, n) => .inl (cI, n, .inl (σ.2.2.2.1 k))
  | (2, n) => .inl (cZ, n, .inl (σ.2.2.2.1 k))
  | (_, n) => .inl (cJ, n, .inr (.inl (σ.2.2.2.2 k)))
def xw (σ : XS) : va_W := (List.range σ.1).map (fun k => (B + k, xwe B cI cZ cJ σ k))
def xtys : List (ClassId × FieldType) := [(cI, .int), (cZ, .boolean), (cJ, .long)]
end XW
section XW2
variable {b B : Nat} {cI cZ cJ : ClassId}
theorem xw_at {σ : XS} {k : Nat} (h : k < σ.1) : (xw B cI cZ cJ σ)[k]? = some (B + k, xwe B cI cZ cJ σ k) := by
  simp [xw, h]
theorem xw_in {σ : XS} {i : Nat} {p : Nat × va_E} (h : (xw B cI cZ cJ σ)[i]? = some p) : i < σ.1 ∧ p = (B + i, xwe B cI cZ cJ σ i) := by
  have hl : i < σ.1 := by
    have := (List.getElem?_eq_some_iff.mp h).1
    simpa [xw] using this
  rw [xw_at hl] at h
  exact ⟨hl, (Option.some.inj h).symm⟩
theorem xw_D (σ : XS) : va_D (fun q => B ≤ q) (xw B cI cZ cJ σ) := by
  refine ⟨fun i j p q hi hj hpq => ?_, fun k q hk => ?_⟩
  · obtain ⟨-, rfl⟩ := xw_in hi
    obtain ⟨-, rfl⟩ := xw_in hj
    have : B + i = B + j := hpq
    omega
  · obtain ⟨-, rfl⟩ := xw_in hk
    exact Nat.le_add_right _ _
theorem xw_set {σ σ' : XS} {k : Nat} (hn : σ'.1 = σ.1) (ho : ∀ j, j ≠ k → xwe B cI cZ cJ σ' j = xwe B cI cZ cJ σ j) : (xw B cI cZ cJ σ).set k (B + k, xwe B cI cZ cJ σ' k) = xw B cI cZ cJ σ' := by
  refine List.ext_getElem? fun i => ?_
  rw [List.getElem?_set]
  by_cases hk : k = i
  · subst hk
    rw [if_pos rfl]
    by_cases hl : k < σ.1
    · rw [if_pos (by simpa [xw] using hl), xw_at (by rw [hn]; exact hl)]
    · rw [if_neg (by simpa [xw] using hl)]
      symm
      simp [xw, hn]; omega
  · rw [if_neg hk]
    by_cases hl : i < σ.1
    · rw [xw_at hl, xw_at (by rw [hn]; exact hl), ho i (fun e => hk e.symm)]
    · have : σ.1 ≤ i := Nat.le_of_not_lt hl
      simp [xw, hn, this]
theorem xw_push {σ σ' : XS} (hn : σ'.1 = σ.1 + 1) (ho : ∀ j, j < σ.1 → xwe B cI cZ cJ σ' j = xwe B cI cZ cJ σ j) : xw B cI cZ cJ σ ++ [(B + σ.1, xwe B cI cZ cJ σ' σ.1)] = xw B cI cZ cJ σ' := by
  unfold xw
  rw [hn, List.range_succ, List.map_append]
  congr 1
  refine List.map_congr_left fun j hj => ?_
  rw [ho j (List.mem_range.mp hj)]
theorem xwe_obj {σ : XS} {k ci : Nat} (h : xkind k = (0, ci)) : xwe B cI cZ cJ σ k = .inr (ci, (List.range (xfk.getD ci []).length).map (xwf B σ k ci)) := by
  unfold xwe; rw [h]; rfl
theorem xwe_int {σ : XS} {k n : Nat} (h : xkind k = (1, n)) : xwe B cI cZ cJ σ k = .inl (cI, n, .inl (σ.2.2.2.1 k)) := by
  unfold xwe; rw [h]; rfl
theorem xwe_boo {σ : XS} {k n : Nat} (h : xkind k = (2, n)) : xwe B cI cZ cJ σ k = .inl (cZ, n, .inl (σ.2.2.2.1 k)) := by
  unfold xwe; rw [h]; rfl
theorem xwe_lon {σ : XS} {k n : Nat} (h : xkind k = (3, n)) : xwe B cI cZ cJ σ k = .inl (cJ, n, .inr (.inl (σ.2.2.2.2 k))) := by
  unfold xwe; rw [h]; rfl
/-- nothing of cell j has changed -/
theorem xwe_same {σ σ' : XS} {j : Nat} (h1 : σ'.2.2.2.1 j = σ.2.2.2.1 j) (h2 : σ'.2.2.2.2 j = σ.2.2.2.2 j) (h3 : ∀ i, Nat.blt (xref j i).1 σ'.2.1 = Nat.blt (xref j i).1 σ.2.1) : xwe B cI cZ cJ σ' j = xwe B cI cZ cJ σ j := by
  have hf : ∀ ci, xwf B σ' j ci = xwf B σ j ci := by
    intro ci; funext i
    unfold xwf
    rw [h1, h2, h3]
  unfold xwe
  split <;> simp only [hf, h1, h2]
theorem xwf_get {σ : XS} {k ci j : Nat} (h : j < (xfk.getD ci []).length) : ((List.range (xfk.getD ci []).length).map (xwf B σ k ci))[j]? = some (xwf B σ k ci j) := by
  rw [List.getElem?_map, List.getElem?_range h]; rfl
end XW2
