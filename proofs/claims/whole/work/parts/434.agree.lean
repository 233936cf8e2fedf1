/-! ===== the pure side: both law readers go together ===== -/
def mk_gg (τ : Nat → Nat) (z r : Nat) (P : List mk_T → Prop) (e d p : Nat) (f g : mj_M → Option mj_M) : Prop :=
  (∃ p' q, p + e ≤ p' ∧ p' ≤ z ∧ q.length + p ≤ p' ∧ P q ∧ (∀ B M l, mk_lx τ z B p l M → ∃ M', f M = some M' ∧ mk_lx τ z B p' (l ++ q.map mk_cd) M') ∧ (∀ C M L, mk_lm τ z C r d p L M → ∃ M', g M = some M' ∧ mk_lm τ z C r d p' (L ++ q) M'))
  ∨ (∃ w, w ≤ z ∧ p ≤ w ∧ (∀ B M l, mk_lx τ z B p l M → ∃ M', f M = some M' ∧ mk_lxf B w M') ∧ (∀ C M L, mk_lm τ z C r d p L M → ∃ M' s, g M = some M' ∧ mk_lmf C r w s M' ∧ s + p ≤ L.length + w))
def mk_ty (b : Bool) (h : Nat) (q : List mk_T) : Prop := ∀ ts, ts.length + h ≤ 32 → mk_ts ts q = some (b :: ts)
def mk_tl (b : Bool) (h : Nat) (q : List mk_T) : Prop := ∀ ts, ts.length + h ≤ 32 → mk_ts (b :: ts) q = some (b :: ts)
section Agree
variable {N : Nat} {τ : Nat → Nat} {z r e e' e1 e2 d p : Nat} {P P' P1 P2 : List mk_T → Prop} {f g f' g' f1 f2 g1 g2 : mj_M → Option mj_M}
theorem mk_gg.wk (h : mk_gg τ z r P e d p f g) (hP : ∀ q, P q → P' q) (he : e' ≤ e) : mk_gg τ z r P' e' d p f g := by
  rcases h with ⟨p', q, a1, a2, a3, a4, a5⟩ | h
  · exact Or.inl ⟨p', q, by omega, a2, a3, hP q a4, a5⟩
  · exact Or.inr h
theorem mk_gg.cg (h : mk_gg τ z r P e d p f g) (hf : ∀ B M l, mk_lx τ z B p l M → f' M = f M) (hg : ∀ C M L, mk_lm τ z C r d p L M → g' M = g M) : mk_gg τ z r P e d p f' g' := by
  rcases h with ⟨p', q, a1, a2, a3, a4, a5, a6⟩ | ⟨w, a1, a2, a3, a4⟩
  · exact Or.inl ⟨p', q, a1, a2, a3, a4, fun B M l h => by rw [hf B M l h]; exact a5 B M l h, fun C M L h => by rw [hg C M L h]; exact a6 C M L h⟩
  · exact Or.inr ⟨w, a1, a2, fun B M l h => by rw [hf B M l h]; exact a3 B M l h, fun C M L h => by rw [hg C M L h]; exact a4 C M L h⟩
theorem mk_gg.pk (hN : 1000 ≤ N) (f g : Int32 → mj_M → Option mj_M) (h : mk_gg τ z r P e d (mk_sq τ z p) (f (nI (mk_ch τ z p))) (g (mk_mc (mk_ch τ z p)))) : mk_gg τ z r P e d p (fun M => (F_Tape_peek N M).bind fun q => f q.1 q.2) (fun M => (F_M_look N M).bind fun q => g q.1 q.2) := by
  have hs := mk_sq_in τ z p
  rcases h with ⟨p', q, a1, a2, a3, a4, a5, a6⟩ | ⟨w, a1, a2, a3, a4⟩
  · refine Or.inl ⟨p', q, by omega, a2, by omega, a4, fun B M l h => ?_, fun C M L h => ?_⟩
    · obtain ⟨M1, x1, x2⟩ := h.pk hN
      obtain ⟨M2, x3, x4⟩ := a5 B M1 l x2
      exact ⟨M2, by simp only [x1, mk_bs]; exact x3, x4⟩
    · obtain ⟨M1, x1, x2⟩ := h.pk hN
      obtain ⟨M2, x3, x4⟩ := a6 C M1 L x2
      exact ⟨M2, by simp only [x1, mk_bs]; exact x3, x4⟩
  · refine Or.inr ⟨w, a1, by omega, fun B M l h => ?_, fun C M L h => ?_⟩
    · obtain ⟨M1, x1, x2⟩ := h.pk hN
      obtain ⟨M2, x3, x4⟩ := a3 B M1 l x2
      exact ⟨M2, by simp only [x1, mk_bs]; exact x3, x4⟩
    · obtain ⟨M1, x1, x2⟩ := h.pk hN
      obtain ⟨M2, s, x3, x4, x5⟩ := a4 C M1 L x2
      exact ⟨M2, s, by simp only [x1, mk_bs]; exact x3, x4, by omega⟩
theorem mk_gg.nx (hp : p < z) (h : mk_gg τ z r P e d (p + 1) f g) : mk_gg τ z r P (e + 1) d p (fun M => f (mj_u M 2 2 (M 2 2 + (1 : Int32)))) (fun M => g (mj_u M 48 3 (M 48 3 + (1 : Int32)))) := by
  rcases h with ⟨p', q, a1, a2, a3, a4, a5, a6⟩ | ⟨w, a1, a2, a3, a4⟩
  · exact Or.inl ⟨p', q, by omega, a2, by omega, a4, fun B M l h => a5 B _ l (h.nx hp), fun C M L h => a6 C _ L (h.nx hp)⟩
  · refine Or.inr ⟨w, a1, by omega, fun B M l h => a3 B _ l (h.nx hp), fun C M L h => ?_⟩
    obtain ⟨M2, s, x3, x4, x5⟩ := a4 C _ L (h.nx hp)
    exact ⟨M2, s, x3, x4, by omega⟩
theorem mk_gg.sq (h1 : mk_gg τ z r P1 e1 d p f1 g1) (h2 : ∀ p', p + e1 ≤ p' → p' ≤ z → mk_gg τ z r P2 e2 d p' f2 g2) (hx : ∀ B w M, mk_lxf B w M → ∃ M', f2 M = some M' ∧ mk_lxf B w M') (hm : ∀ C w s M, mk_lmf C r w s M → ∃ M', g2 M = some M' ∧ mk_lmf C r w s M') : mk_gg τ z r (fun q => ∃ a b, q = a ++ b ∧ P1 a ∧ P2 b) (e1 + e2) d p (fun M => (f1 M).bind f2) (fun M => (g1 M).bind g2) := by
  rcases h1 with ⟨p', q, a1, a2, a3, a4, a5, a6⟩ | ⟨w, a1, a2, a3, a4⟩
  · rcases h2 p' a1 a2 with ⟨p2, q2, b1, b2, b3, b4, b5, b6⟩ | ⟨w, b1, b2, b3, b4⟩
    · refine Or.inl ⟨p2, q ++ q2, by omega, b2, by rw [List.length_append]; omega, ⟨q, q2, rfl, a4, b4⟩, fun B M l h => ?_, fun C M L h => ?_⟩
      · obtain ⟨M1, x1, x2⟩ := a5 B M l h
        obtain ⟨M2, x3, x4⟩ := b5 B M1 _ x2
        exact ⟨M2, by simp only [x1, mk_bs]; exact x3, by rw [List.map_append, ← List.append_assoc]; exact x4⟩
      · obtain ⟨M1, x1, x2⟩ := a6 C M L h
        obtain ⟨M2, x3, x4⟩ := b6 C M1 _ x2
        exact ⟨M2, by simp only [x1, mk_bs]; exact x3, by rw [← List.append_assoc]; exact x4⟩
    · refine Or.inr ⟨w, b1, by omega, fun B M l h => ?_, fun C M L h => ?_⟩
      · obtain ⟨M1, x1, x2⟩ := a5 B M l h
        obtain ⟨M2, x3, x4⟩ := b3 B M1 _ x2
        exact ⟨M2, by simp only [x1, mk_bs]; exact x3, x4⟩
      · obtain ⟨M1, x1, x2⟩ := a6 C M L h
        obtain ⟨M2, s, x3, x4, x5⟩ := b4 C M1 _ x2
        rw [List.length_append] at x5
        exact ⟨M2, s, by simp only [x1, mk_bs]; exact x3, x4, by omega⟩
  · refine Or.inr ⟨w, a1, a2, fun B M l h => ?_, fun C M L h => ?_⟩
    · obtain ⟨M1, x1, x2⟩ := a3 B M l h
      obtain ⟨M2, x3, x4⟩ := hx _ _ _ x2
      exact ⟨M2, by simp only [x1, mk_bs]; exact x3, x4⟩
    · obtain ⟨M1, s, x1, x2, x3⟩ := a4 C M L h
      obtain ⟨M2, x4, x5⟩ := hm _ _ _ _ x2
      exact ⟨M2, s, by simp only [x1, mk_bs]; exact x4, x5, x3⟩
theorem mk_sg_lt (c : Nat) : 0 < mk_sg c ∧ mk_sg c < 128 := by
  unfold mk_sg
  split <;> omega
/-- a sign, what it joins, the sign written -/
theorem mk_gg.op (hz : z ≤ 240) (hp : p < z) {c : Nat} (h : mk_gg τ z r P 1 d (p + 1) f g) : mk_gg τ z r (fun q => ∃ a, q = a ++ [(c, 0)] ∧ P a) 2 d p (fun M => (f (mj_u M 2 2 (M 2 2 + (1 : Int32)))).bind fun M => F_LawReader_write (nI (mk_sg c)) (0 : Int32) M) (fun M => (g (mj_u M 48 3 (M 48 3 + (1 : Int32)))).bind fun M => F_M_put (nI c) (0 : Int32) M) := by
  have hc := mk_sg_lt c
  rcases h with ⟨p', q, a1, a2, a3, a4, a5, a6⟩ | ⟨w, a1, a2, a3, a4⟩
  · refine Or.inl ⟨p', q ++ [(c, 0)], by omega, a2, by rw [List.length_append, List.length_singleton]; omega, ⟨q, rfl, a4⟩, fun B M l h => ?_, fun C M L h => ?_⟩
    · obtain ⟨M1, x1, x2⟩ := a5 B _ l (h.nx hp)
      have hl := h.2.2.2.2.1
      obtain ⟨M2, x3, x4⟩ := x2.wr (v := 0) (s := mk_sg c) (by rw [List.length_append, List.length_map]; omega) (by omega) hc.2
      exact ⟨M2, by simp only [x1, mk_bs]; exact x3, by rw [List.map_append, ← List.append_assoc]; exact x4⟩
    · obtain ⟨M1, x1, x2⟩ := a6 C _ L (h.nx hp)
      have hl := h.2.2.2.2.2.2.2.2.1
      obtain ⟨M2, x3, x4⟩ := x2.pt (v := 0) (c := c) (by rw [List.length_append]; omega)
      exact ⟨M2, by simp only [x1, mk_bs]; exact x3, by rw [← List.append_assoc]; exact x4⟩
  · refine Or.inr ⟨w, a1, by omega, fun B M l h => ?_, fun C M L h => ?_⟩
    · obtain ⟨M1, x1, x2⟩ := a3 B _ l (h.nx hp)
      obtain ⟨M2, x3, x4⟩ := x2.wr (nI (mk_sg c)) (0 : Int32)
      exact ⟨M2, by simp only [x1, mk_bs]; exact x3, x4⟩
    · obtain ⟨M1, s, x1, x2, x3⟩ := a4 C _ L (h.nx hp)
      have hl := h.2.2.2.2.2.2.2.2.1
      obtain ⟨M2, x4, x5⟩ := x2.pt (by omega) (nI c) (0 : Int32)
      exact ⟨M2, s + 1, by simp only [x1, mk_bs]; exact x4, x5, by omega⟩
theorem mk_gg.lp (hN : 1000 ≤ N) (hz : mk_tp τ z) {b : Bool} {h c1 c2 : Nat} (t1 : ∀ ts, mk_tc (b :: b :: ts) (c1, 0) = some (b :: ts)) (t2 : ∀ ts, mk_tc (b :: b :: ts) (c2, 0) = some (b :: ts)) {f0 g0 : mj_M → Option mj_M} (h0 : ∀ p, p ≤ z → mk_gg τ z r (mk_ty b h) 1 d p f0 g0) {fl : Nat → Int32 → mj_M → Option mj_M} {gl : Nat → mj_M → Option mj_M}
    (hfl : ∀ n i M, fl (n + 1) i M = if (240 : Int32) ≤ i then some M else (F_Tape_peek N M).bind fun q => if q.1 = nI (mk_sg c1) then ((f0 (mj_u q.2 2 2 (q.2 2 2 + (1 : Int32)))).bind fun M => (F_LawReader_write q.1 (0 : Int32) M).bind fun M => fl n (i + (1 : Int32)) M) else if q.1 = nI (mk_sg c2) then ((f0 (mj_u q.2 2 2 (q.2 2 2 + (1 : Int32)))).bind fun M => (F_LawReader_write q.1 (0 : Int32) M).bind fun M => fl n (i + (1 : Int32)) M) else some q.2)
    (hgl : ∀ n M, M 48 4 = (-1 : Int32) → gl (n + 1) M = (F_M_look N M).bind fun q => if q.1 = nI (mk_sg c1) then ((g0 (mj_u q.2 48 3 (q.2 48 3 + (1 : Int32)))).bind fun M => (F_M_put (nI c1) (0 : Int32) M).bind fun M => gl n M) else if q.1 = nI (mk_sg c2) then ((g0 (mj_u q.2 48 3 (q.2 48 3 + (1 : Int32)))).bind fun M => (F_M_put (nI c2) (0 : Int32) M).bind fun M => gl n M) else some q.2)
    (hgf : ∀ n M, ¬ M 48 4 = (-1 : Int32) → gl (n + 1) M = some M) :
    ∀ k p i n m, z - p < k → i < p → p ≤ z → k ≤ n → k ≤ m → mk_gg τ z r (mk_tl b (h + 1)) 0 d p (fl n (nI i)) (gl m) := by
  have hz2 := hz.1
  have s1 := mk_sg_lt c1
  have s2 := mk_sg_lt c2
  have xs : ∀ n i, 0 < n → ∀ B w M, mk_lxf B w M → ∃ M', fl n i M = some M' ∧ mk_lxf B w M' := by
    intro n i hn B w M hM
    obtain ⟨n, rfl⟩ : ∃ k, n = k + 1 := ⟨n - 1, by omega⟩
    refine ⟨M, ?_, hM⟩
    rw [hfl]
    split
    · rfl
    · rw [hM.pk]
      simp only [mk_bs]
      rw [if_neg (by rw [nl_0, nw_eq (by omega) (by omega)]; omega), if_neg (by rw [nl_0, nw_eq (by omega) (by omega)]; omega)]
  have ms : ∀ n, 0 < n → ∀ C w s M, mk_lmf C r w s M → ∃ M', gl n M = some M' ∧ mk_lmf C r w s M' := by
    intro n hn C w s M hM
    obtain ⟨n, rfl⟩ : ∃ k, n = k + 1 := ⟨n - 1, by omega⟩
    exact ⟨M, hgf n M hM.ok, hM⟩
  intro k
  induction k with
  | zero => intro p i n m h1; omega
  | succ k ih =>
    intro p i n m h1 h2 h3 h4 h5
    obtain ⟨n, rfl⟩ : ∃ k, n = k + 1 := ⟨n - 1, by omega⟩
    obtain ⟨m, rfl⟩ : ∃ k, m = k + 1 := ⟨m - 1, by omega⟩
    have hs := mk_sq_in τ z p
    have hc := mk_c0_lt hz (mk_sq τ z p)
    have hc0 := mk_c0_0 hz (mk_sq τ z p)
    have hch : mk_ch τ z p = mk_c0 τ z (mk_sq τ z p) := rfl
    refine (mk_gg.pk hN (fun v M => if v = nI (mk_sg c1) then ((f0 (mj_u M 2 2 (M 2 2 + (1 : Int32)))).bind fun M => (F_LawReader_write v (0 : Int32) M).bind fun M => fl n (nI i + (1 : Int32)) M) else if v = nI (mk_sg c2) then ((f0 (mj_u M 2 2 (M 2 2 + (1 : Int32)))).bind fun M => (F_LawReader_write v (0 : Int32) M).bind fun M => fl n (nI i + (1 : Int32)) M) else some M) (fun v M => if v = nI (mk_sg c1) then ((g0 (mj_u M 48 3 (M 48 3 + (1 : Int32)))).bind fun M => (F_M_put (nI c1) (0 : Int32) M).bind fun M => gl m M) else if v = nI (mk_sg c2) then ((g0 (mj_u M 48 3 (M 48 3 + (1 : Int32)))).bind fun M => (F_M_put (nI c2) (0 : Int32) M).bind fun M => gl m M) else some M) ?_).cg (fun B M l h => ?_) (fun C M L h => ?_)
    rotate_left
    · rw [hfl, nl_240, if_neg (nI_ge (by omega) (by omega))]
    · rw [hgl _ _ h.ok]
    rw [hch]
    simp (disch := omega) only [nw_eq, mk_mc_eq]
    have go : ∀ c, (∀ ts, mk_tc (b :: b :: ts) (c, 0) = some (b :: ts)) → mk_sq τ z p < z → mk_gg τ z r (mk_tl b (h + 1)) 0 d (mk_sq τ z p) (fun M => (f0 (mj_u M 2 2 (M 2 2 + (1 : Int32)))).bind fun M => (F_LawReader_write (nI (mk_sg c)) (0 : Int32) M).bind fun M => fl n (nI i + (1 : Int32)) M) (fun M => (g0 (mj_u M 48 3 (M 48 3 + (1 : Int32)))).bind fun M => (F_M_put (nI c) (0 : Int32) M).bind fun M => gl m M) := by
      intro c ht hlt
      refine (((mk_gg.op hz2 hlt (c := c) (h0 _ (by omega))).sq (f2 := fl n (nI (i + 1))) (g2 := gl m) (fun p' q1 q2 => ih p' (i + 1) n m (by omega) (by omega) q2 (by omega) (by omega)) (xs n _ (by omega)) (ms m (by omega))).wk (P' := mk_tl b (h + 1)) (e' := 0) (fun q hq => ?_) (by omega)).cg (fun B M l hM => ?_) (fun C M L hM => ?_)
      · obtain ⟨a, b', rfl, ⟨a', rfl, e1⟩, e2⟩ := hq
        intro ts hts
        rw [mk_ts_app, mk_ts_app, e1 (b :: ts) (by rw [List.length_cons]; omega), mk_bs]
        show ((mk_tc (b :: b :: ts) (c, 0)).bind fun t => mk_ts t []).bind _ = _
        rw [ht, mk_bs]
        show (some (b :: ts)).bind _ = _
        rw [mk_bs]
        exact e2 ts hts
      · rw [nI_1, Option.bind_assoc]
      · rw [Option.bind_assoc]
    by_cases e1 : mk_c0 τ z (mk_sq τ z p) = mk_sg c1
    · simp only [e1, if_true]
      exact go c1 t1 (by omega)
    · simp only [e1, if_false]
      by_cases e2 : mk_c0 τ z (mk_sq τ z p) = mk_sg c2
      · simp only [e2, if_true]
        exact go c2 t2 (by omega)
      · simp only [e2, if_false]
        exact Or.inl ⟨_, [], Nat.le_refl _, by omega, by rw [List.length_nil]; omega, fun ts _ => rfl, fun B M l hM => ⟨M, rfl, by rw [List.map_nil, List.append_nil]; exact hM⟩, fun C M L hM => ⟨M, rfl, by rw [List.append_nil]; exact hM⟩⟩
end Agree
