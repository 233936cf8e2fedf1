/-! ===== the pure side: both law readers, where they stand ===== -/
theorem mk_code {v s : Nat} (hv : v < 10000) (hs : s < 128) : (nI v <<< ((7 : Int32) &&& 31)) ||| nI s = nI (v * 128 + s) := by
  rw [show ((7 : Int32) &&& 31) = (nI 7 &&& nI 31) from rfl, pk_shlN _ 7 (nw_sl 7 (by omega)) (by omega), nw_or]
  congr 1
  have := Nat.shiftLeft_add_eq_or_of_lt (i := 7) (b := s) (by omega) v
  rw [Nat.shiftLeft_eq] at this
  exact this.symm
theorem mk_at_up {f : Nat → Int32} {k : Nat} {v : Int32} : ∀ (l : List Nat) (p : Nat), p + l.length ≤ k → mk_at f p l → mk_at (va_up f k v) p l
  | [], _, _, _ => trivial
  | _ :: l, p, h, hs => by
    rw [List.length_cons] at h
    exact ⟨by rw [mj_up_ne _ _ _ (by omega)]; exact hs.1, mk_at_up l (p + 1) (by omega) hs.2⟩
theorem mk_tk_up {f g : Nat → Int32} {k : Nat} {v w : Int32} : ∀ (l : List mk_T) (p : Nat), p + l.length ≤ k → mk_tk f g p l → mk_tk (va_up f k v) (va_up g k w) p l
  | [], _, _, _ => trivial
  | _ :: l, p, h, hs => by
    rw [List.length_cons] at h
    exact ⟨by rw [mj_up_ne _ _ _ (by omega)]; exact hs.1, by rw [mj_up_ne _ _ _ (by omega)]; exact hs.2.1, mk_tk_up l (p + 1) (by omega) hs.2.2⟩
theorem mk_tk_app {f g : Nat → Int32} : ∀ (l m : List mk_T) (p : Nat), mk_tk f g p (l ++ m) ↔ mk_tk f g p l ∧ mk_tk f g (p + l.length) m
  | [], m, p => by rw [List.nil_append, List.length_nil, Nat.add_zero]; exact ⟨fun h => ⟨trivial, h⟩, fun h => h.2⟩
  | a :: l, m, p => by
    have ih := mk_tk_app (f := f) (g := g) l m (p + 1)
    rw [List.cons_append, List.length_cons, show p + (l.length + 1) = p + 1 + l.length by omega]
    exact ⟨fun h => ⟨⟨h.1, h.2.1, (ih.mp h.2.2).1⟩, (ih.mp h.2.2).2⟩, fun h => ⟨h.1.1, h.1.2.1, ih.mpr ⟨h.1.2.2, h.2⟩⟩⟩
theorem mk_ts_app : ∀ (a b : List mk_T) (ts : List Bool), mk_ts ts (a ++ b) = (mk_ts ts a).bind fun t => mk_ts t b
  | [], b, ts => rfl
  | q :: a, b, ts => by
    rw [List.cons_append]
    show (mk_tc ts q).bind (fun t => mk_ts t (a ++ b)) = ((mk_tc ts q).bind fun t => mk_ts t a).bind fun t => mk_ts t b
    cases mk_tc ts q with
    | none => rfl
    | some t => exact mk_ts_app a b t
def mk_lxb (B M : mj_M) : Prop := M 2 1 = B 2 1 ∧ ∀ c, c ≠ 2 → c ≠ 6 → c ≠ 7 → M c = B c
/-- the written reader at a place, with what it has written -/
def mk_lx (τ : Nat → Nat) (z : Nat) (B : mj_M) (p : Nat) (l : List Nat) (M : mj_M) : Prop :=
  mk_xt1 τ z M ∧ p ≤ z ∧ M 2 2 = nI p ∧ M 2 3 = -nI 1 ∧ l.length ≤ p ∧ M 6 1 = nI l.length ∧ mk_at (M 7) 0 l ∧ mk_lxb B M
/-- it has met a fault -/
def mk_lxf (B : mj_M) (w : Nat) (M : mj_M) : Prop := M 2 3 = nI w ∧ w ≤ 240 ∧ (∃ s, s ≤ 240 ∧ M 6 1 = nI s) ∧ mk_lxb B M
def mk_lmb (r : Nat) (C M : mj_M) : Prop := ∀ c k, ¬ (c = 48 ∧ 3 ≤ k ∧ k ≤ 5 ∨ (c = 50 ∨ c = 51) ∧ 520 * r ≤ k ∨ c = 52 ∧ k = r) → M c k = C c k
def mk_lm (τ : Nat → Nat) (z : Nat) (C : mj_M) (r d p : Nat) (L : List mk_T) (M : mj_M) : Prop :=
  mk_mt1 τ z M ∧ p ≤ z ∧ r ≤ 4 ∧ M 48 14 = nI r ∧ M 48 3 = nI p ∧ M 48 4 = -nI 1 ∧ M 48 5 = nI d ∧ d ≤ 6 ∧ L.length ≤ p ∧ M 52 r = nI L.length ∧ mk_tk (M 50) (M 51) (520 * r) L ∧ mk_lmb r C M
def mk_lmf (C : mj_M) (r w s : Nat) (M : mj_M) : Prop := r ≤ 4 ∧ M 48 14 = nI r ∧ M 48 4 = nI w ∧ w ≤ 240 ∧ M 52 r = nI s ∧ mk_lmb r C M
section Law
variable {N : Nat} {τ : Nat → Nat} {z : Nat} {B C M : mj_M} {r d p w s : Nat} {l : List Nat} {L : List mk_T}
theorem mk_lxb.u (h : mk_lxb B M) {c k : Nat} {v : Int32} (hc : c = 2 ∧ k ≠ 1 ∨ c = 6 ∨ c = 7) : mk_lxb B (mj_u M c k v) := by
  refine ⟨?_, fun c' h2 h6 h7 => ?_⟩
  · by_cases e : c = 2
    · subst e; rw [mj_u_eq, mj_up_ne _ _ _ (by omega)]; exact h.1
    · rw [nw_u9 _ (by omega)]; exact h.1
  · rw [nw_u9 _ (by omega)]; exact h.2 c' h2 h6 h7
theorem mk_xt1.u (h : mk_xt1 τ z M) {c k : Nat} {v : Int32} (hc : c = 2 ∧ k ≠ 1 ∨ c ≠ 2 ∧ c ≠ 3) : mk_xt1 τ z (mj_u M c k v) := by
  refine ⟨h.1, ?_, fun k' hk => ?_⟩
  · by_cases e : c = 2
    · subst e; rw [mj_u_eq, mj_up_ne _ _ _ (by omega)]; exact h.2.1
    · rw [nw_u9 _ (by omega)]; exact h.2.1
  · rw [nw_u9 _ (by omega)]; exact h.2.2 k' hk
theorem mk_mt1.u (h : mk_mt1 τ z M) {c k : Nat} {v : Int32} (hc : c = 48 ∧ k ≠ 2 ∨ c ≠ 48 ∧ c ≠ 49) : mk_mt1 τ z (mj_u M c k v) := by
  refine ⟨h.1, ?_, fun k' hk => ?_⟩
  · by_cases e : c = 48
    · subst e; rw [mj_u_eq, mj_up_ne _ _ _ (by omega)]; exact h.2.1
    · rw [nw_u9 _ (by omega)]; exact h.2.1
  · rw [nw_u9 _ (by omega)]; exact h.2.2 k' hk
theorem mk_lmb.u (h : mk_lmb r C M) {c k : Nat} {v : Int32} (hc : c = 48 ∧ 3 ≤ k ∧ k ≤ 5 ∨ (c = 50 ∨ c = 51) ∧ 520 * r ≤ k ∨ c = 52 ∧ k = r) : mk_lmb r C (mj_u M c k v) := by
  intro c' k' h'
  by_cases e : c' = c
  · subst e
    rw [mj_u_eq, mj_up_ne _ _ _ (fun e => h' (by rw [e]; exact hc))]
    exact h _ _ h'
  · rw [nw_u9 _ e]; exact h _ _ h'
theorem mk_lx.z240 (h : mk_lx τ z B p l M) : z ≤ 240 := h.1.1.1
theorem mk_lx.at (h : mk_lx τ z B p l M) {p' : Nat} (hp : p ≤ p') (hz : p' ≤ z) : mk_lx τ z B p' l (mj_u M 2 2 (nI p')) := by
  obtain ⟨h1, h2, h3, h4, h5, h6, h7, h8⟩ := h
  refine ⟨h1.u (by omega), hz, by rw [mj_u_eq, mj_up_eq], by rw [mj_u_eq, mj_up_ne _ _ _ (by omega)]; exact h4, by omega, by rw [nw_u9 _ (by omega)]; exact h6, by rw [nw_u9 _ (by omega)]; exact h7, h8.u (by omega)⟩
theorem mk_lx.pk (h : mk_lx τ z B p l M) (hN : 1000 ≤ N) : ∃ M', F_Tape_peek N M = some (nI (mk_ch τ z p), M') ∧ mk_lx τ z B (mk_sq τ z p) l M' := by
  have hs := mk_sq_in τ z p
  have hz := h.2.1
  refine ⟨mj_u M 2 2 (nI (mk_sq τ z p)), ?_, h.at hs.1 (by omega)⟩
  have e := mk_Xpeek h.1 hN h.2.1 h.2.2.2.1
  rw [mj_us_ h.2.2.1] at e
  exact e
theorem mk_lx.nx (h : mk_lx τ z B p l M) (hp : p < z) : mk_lx τ z B (p + 1) l (mj_u M 2 2 (M 2 2 + (1 : Int32))) := by
  rw [h.2.2.1, nI_1]
  exact h.at (by omega) hp
theorem mk_lx.fl (h : mk_lx τ z B p l M) {v : Int32} (hv : v = nI w) (hw : w ≤ 240) : ∃ M', F_Tape_fail v M = some M' ∧ mk_lxf B w M' := by
  have hz := h.z240
  obtain ⟨h1, h2, h3, h4, h5, h6, h7, h8⟩ := h
  exact ⟨_, mk_Xfail h4 v, by rw [mj_u_eq, mj_up_eq]; exact hv, hw, ⟨l.length, by omega, by rw [nw_u9 _ (by omega)]; exact h6⟩, h8.u (by omega)⟩
theorem mk_lx.wr (h : mk_lx τ z B p l M) {v s : Nat} (hl : l.length < p) (hv : v < 10000) (hs : s < 128) : ∃ M', F_LawReader_write (nI s) (nI v) M = some M' ∧ mk_lx τ z B p (l ++ [v * 128 + s]) M' := by
  have hz := h.z240
  obtain ⟨h1, h2, h3, h4, h5, h6, h7, h8⟩ := h
  refine ⟨_, by
    unfold F_LawReader_write
    rw [h6, nl_240, if_neg (nI_ge (by omega) (by omega)), nw_ck (by omega) (by omega), nI_clamp (by omega), mk_code hv hs]
    show some (mj_u _ 6 1 (mj_u M 7 l.length (nI (v * 128 + s)) 6 1 + 1)) = _
    rw [nw_u9 _ (by omega), h6, nI_1], ?_⟩
  refine ⟨(h1.u (by omega)).u (by omega), h2, by rw [nw_u9 _ (by omega), nw_u9 _ (by omega)]; exact h3, by rw [nw_u9 _ (by omega), nw_u9 _ (by omega)]; exact h4, by rw [List.length_append, List.length_singleton]; omega, by rw [mj_u_eq, mj_up_eq, List.length_append, List.length_singleton], ?_, (h8.u (by omega)).u (by omega)⟩
  rw [nw_u9 _ (by omega), mj_u_eq, mk_at_app]
  exact ⟨mk_at_up l 0 (by omega) h7, by rw [Nat.zero_add, mj_up_eq], trivial⟩
theorem mk_lxf.pk (h : mk_lxf B w M) : F_Tape_peek N M = some (0, M) := mk_Xpeek0 h.1 (by have := h.2.1; omega)
theorem mk_lxf.fl (h : mk_lxf B w M) (x : Int32) : F_Tape_fail x M = some M := mk_Xfail0 h.1 (by have := h.2.1; omega) x
theorem mk_lxf.wr (h : mk_lxf B w M) (x y : Int32) : ∃ M', F_LawReader_write x y M = some M' ∧ mk_lxf B w M' := by
  obtain ⟨h1, h2, ⟨s, h3, h4⟩, h5⟩ := h
  unfold F_LawReader_write
  rw [h4, nl_240]
  by_cases c : 240 ≤ s
  · rw [if_pos (nI_le c (by omega))]
    exact ⟨M, rfl, h1, h2, ⟨s, h3, h4⟩, h5⟩
  · rw [if_neg (nI_ge (by omega) (by omega)), nw_ck (by omega) (by omega)]
    refine ⟨_, rfl, ?_, h2, ⟨s + 1, by omega, ?_⟩, (h5.u (by omega)).u (by omega)⟩
    · rw [nw_u9 _ (by omega), nw_u9 _ (by omega)]; exact h1
    · rw [mj_u_eq, mj_up_eq, nw_u9 _ (by omega), h4, nI_1]
theorem mk_lm.z240 (h : mk_lm τ z C r d p L M) : z ≤ 240 := h.1.1.1
theorem mk_lm.at (h : mk_lm τ z C r d p L M) {p' : Nat} (hp : p ≤ p') (hz : p' ≤ z) : mk_lm τ z C r d p' L (mj_u M 48 3 (nI p')) := by
  obtain ⟨h1, h2, h3, h4, h5, h6, h7, h8, h9, h10, h11, h12⟩ := h
  refine ⟨h1.u (by omega), hz, h3, by rw [mj_u_eq, mj_up_ne _ _ _ (by omega)]; exact h4, by rw [mj_u_eq, mj_up_eq], by rw [mj_u_eq, mj_up_ne _ _ _ (by omega)]; exact h6, by rw [mj_u_eq, mj_up_ne _ _ _ (by omega)]; exact h7, h8, by omega, by rw [nw_u9 _ (by omega)]; exact h10, by rw [nw_u9 _ (by omega), nw_u9 _ (by omega)]; exact h11, h12.u (by omega)⟩
theorem mk_lm.dp (h : mk_lm τ z C r d p L M) {d' : Nat} (hd : d' ≤ 6) : mk_lm τ z C r d' p L (mj_u M 48 5 (nI d')) := by
  obtain ⟨h1, h2, h3, h4, h5, h6, h7, h8, h9, h10, h11, h12⟩ := h
  refine ⟨h1.u (by omega), h2, h3, by rw [mj_u_eq, mj_up_ne _ _ _ (by omega)]; exact h4, by rw [mj_u_eq, mj_up_ne _ _ _ (by omega)]; exact h5, by rw [mj_u_eq, mj_up_ne _ _ _ (by omega)]; exact h6, by rw [mj_u_eq, mj_up_eq], hd, h9, by rw [nw_u9 _ (by omega)]; exact h10, by rw [nw_u9 _ (by omega), nw_u9 _ (by omega)]; exact h11, h12.u (by omega)⟩
theorem mk_lm.pk (h : mk_lm τ z C r d p L M) (hN : 1000 ≤ N) : ∃ M', F_M_look N M = some (mk_mc (mk_ch τ z p), M') ∧ mk_lm τ z C r d (mk_sq τ z p) L M' := by
  have hs := mk_sq_in τ z p
  have hz := h.2.1
  have h2 := h.z240
  refine ⟨mj_u M 48 3 (nI (mk_sq τ z p)), ?_, h.at hs.1 (by omega)⟩
  have e := mk_Mlook h.1 hN (show p < 90000 by omega)
  rw [mj_us_ h.2.2.2.2.1] at e
  exact e
theorem mk_lm.nx (h : mk_lm τ z C r d p L M) (hp : p < z) : mk_lm τ z C r d (p + 1) L (mj_u M 48 3 (M 48 3 + (1 : Int32))) := by
  rw [h.2.2.2.2.1, nI_1]
  exact h.at (by omega) hp
theorem mk_lm.bd (h : mk_lm τ z C r d p L M) : ∃ M', F_M_bad M = some M' ∧ mk_lmf C r p L.length M' := by
  have hz := h.z240
  obtain ⟨h1, h2, h3, h4, h5, h6, h7, h8, h9, h10, h11, h12⟩ := h
  exact ⟨_, mk_Mbad h6, h3, by rw [mj_u_eq, mj_up_ne _ _ _ (by omega)]; exact h4, by rw [mj_u_eq, mj_up_eq]; exact h5, by omega, by rw [nw_u9 _ (by omega)]; exact h10, h12.u (by omega)⟩
theorem mk_putEq (h14 : M 48 14 = nI r) (hr : r ≤ 4) (h52 : M 52 r = nI s) (hs : s < 520) (x y : Int32) : F_M_put x y M = some (mj_u (mj_u (mj_u M 50 (520 * r + s) x) 51 (520 * r + s) y) 52 r (nI (s + 1))) := by
  unfold F_M_put
  have e : (520 : Int32) * nI r + nI s = nI (520 * r + s) := by rw [nl_520, pk_mul, nI_add]
  simp only [mj_lt]
  rw [h14, nI_clamp (by omega), h52, e, nw_ck (by omega) (by omega), nw_ck (by omega) (by omega), nI_clamp (by omega), nw_u9 _ (by omega), nw_u9 _ (by omega), h14, nI_clamp (by omega), h52, e, nw_ck (by omega) (by omega), nw_ck (by omega) (by omega), nI_clamp (by omega), nw_u9 _ (by omega), nw_u9 _ (by omega), h14, nw_ck (by omega) (by omega), nw_ck (by omega) (by omega), nI_clamp (by omega), nw_u9 _ (by omega), nw_u9 _ (by omega), h52, nI_1]
theorem mk_lm.pt (h : mk_lm τ z C r d p L M) {c v : Nat} (hl : L.length < p) : ∃ M', F_M_put (nI c) (nI v) M = some M' ∧ mk_lm τ z C r d p (L ++ [(c, v)]) M' := by
  have hz := h.z240
  obtain ⟨h1, h2, h3, h4, h5, h6, h7, h8, h9, h10, h11, h12⟩ := h
  refine ⟨_, mk_putEq h4 h3 h10 (by omega) _ _, ?_⟩
  have e48 : (mj_u (mj_u (mj_u M 50 (520 * r + L.length) (nI c)) 51 (520 * r + L.length) (nI v)) 52 r (nI (L.length + 1))) 48 = M 48 := by rw [nw_u9 _ (by omega), nw_u9 _ (by omega), nw_u9 _ (by omega)]
  refine ⟨((h1.u (by omega)).u (by omega)).u (by omega), h2, h3, by rw [e48]; exact h4, by rw [e48]; exact h5, by rw [e48]; exact h6, by rw [e48]; exact h7, h8, by rw [List.length_append, List.length_singleton]; omega, by rw [mj_u_eq, mj_up_eq, List.length_append, List.length_singleton], ?_, ((h12.u (by omega)).u (by omega)).u (by omega)⟩
  rw [nw_u9 _ (by omega), nw_u9 _ (by omega), mj_u_eq, nw_u9 _ (by omega), mj_u_eq, nw_u9 _ (by omega), mk_tk_app]
  exact ⟨mk_tk_up L _ (by omega) h11, by rw [mj_up_eq], by rw [mj_up_eq], trivial⟩
theorem mk_lmf.pt (h : mk_lmf C r w s M) (hs : s < 520) (x y : Int32) : ∃ M', F_M_put x y M = some M' ∧ mk_lmf C r w (s + 1) M' := by
  obtain ⟨h1, h2, h3, h4, h5, h6⟩ := h
  refine ⟨_, mk_putEq h2 h1 h5 hs _ _, ?_⟩
  have e48 : (mj_u (mj_u (mj_u M 50 (520 * r + s) x) 51 (520 * r + s) y) 52 r (nI (s + 1))) 48 = M 48 := by rw [nw_u9 _ (by omega), nw_u9 _ (by omega), nw_u9 _ (by omega)]
  exact ⟨h1, by rw [e48]; exact h2, by rw [e48]; exact h3, h4, by rw [mj_u_eq, mj_up_eq], ((h6.u (by omega)).u (by omega)).u (by omega)⟩
theorem mk_lmf.u (h : mk_lmf C r w s M) {k : Nat} {v : Int32} (hk : k = 3 ∨ k = 5) : mk_lmf C r w s (mj_u M 48 k v) := by
  obtain ⟨h1, h2, h3, h4, h5, h6⟩ := h
  exact ⟨h1, by rw [mj_u_eq, mj_up_ne _ _ _ (by omega)]; exact h2, by rw [mj_u_eq, mj_up_ne _ _ _ (by omega)]; exact h3, h4, by rw [nw_u9 _ (by omega)]; exact h5, h6.u (by omega)⟩
theorem mk_lmf.ok (h : mk_lmf C r w s M) : ¬ M 48 4 = (-1 : Int32) := by
  rw [h.2.2.1]
  exact mk_nm1 (by have := h.2.2.2.1; omega)
theorem mk_lm.ok (h : mk_lm τ z C r d p L M) : M 48 4 = (-1 : Int32) := h.2.2.2.2.2.1
end Law
