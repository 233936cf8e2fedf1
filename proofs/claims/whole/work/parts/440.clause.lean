/-! ===== the pure side: a clause of a law, both readers ===== -/
def mk_fl : List mk_C → List mk_T
  | [] => []
  | q :: C => q.1 ++ q.2 ++ mk_fl C
theorem mk_fl_app : ∀ (C D : List mk_C), mk_fl (C ++ D) = mk_fl C ++ mk_fl D
  | [], D => rfl
  | q :: C, D => by
    rw [List.cons_append]
    show q.1 ++ q.2 ++ mk_fl (C ++ D) = q.1 ++ q.2 ++ mk_fl C ++ mk_fl D
    rw [mk_fl_app C D, ← List.append_assoc]
theorem mk_en_app : ∀ (C D : List mk_C), mk_en (C ++ D) = mk_en C ++ mk_en D
  | [], D => rfl
  | q :: C, D => by
    rw [List.cons_append]
    show mk_ec q ++ mk_en (C ++ D) = mk_ec q ++ mk_en C ++ mk_en D
    rw [mk_en_app C D, ← List.append_assoc]
/-- where the clauses of a text begin and end -/
def mk_cz (M : mj_M) : List mk_C → Nat → Nat → Prop
  | [], _, _ => True
  | q :: C, c, p => M 54 c = nI p ∧ M 55 c = nI (p + q.1.length) ∧ M 56 c = nI (p + q.1.length + q.2.length) ∧ mk_cz M C (c + 1) (p + q.1.length + q.2.length)
theorem mk_cz_cl {M : mj_M} {b : Nat} : ∀ (C : List mk_C) (c p : Nat), mk_cz M C c p → mk_tk (M 50) (M 51) (b + p) (mk_fl C) → mk_cl M b C c p
  | [], _, _, _, _ => trivial
  | q :: C, c, p, h, k => by
    have k1 := (mk_tk_app (q.1 ++ q.2) (mk_fl C) (b + p)).mp k
    have k2 := (mk_tk_app q.1 q.2 (b + p)).mp k1.1
    refine ⟨h.1, h.2.1, h.2.2.1, k2.1, k2.2, mk_cz_cl C (c + 1) _ h.2.2.2 ?_⟩
    have k3 := k1.2
    rw [List.length_append, ← Nat.add_assoc] at k3
    rw [← Nat.add_assoc, ← Nat.add_assoc]
    exact k3
theorem mk_cz_cg {M M' : mj_M} : ∀ (C : List mk_C) (c p : Nat), (∀ k, c ≤ k → k < c + C.length → M' 54 k = M 54 k ∧ M' 55 k = M 55 k ∧ M' 56 k = M 56 k) → mk_cz M C c p → mk_cz M' C c p
  | [], _, _, _, _ => trivial
  | q :: C, c, p, f, h => by
    have f0 := f c (Nat.le_refl _) (by rw [List.length_cons]; omega)
    exact ⟨f0.1.trans h.1, f0.2.1.trans h.2.1, f0.2.2.trans h.2.2.1, mk_cz_cg C (c + 1) _ (fun k h1 h2 => f k (by omega) (by rw [List.length_cons]; omega)) h.2.2.2⟩
theorem mk_cz_app {M : mj_M} : ∀ (C D : List mk_C) (c p : Nat), mk_cz M C c p → mk_cz M D (c + C.length) (p + (mk_fl C).length) → mk_cz M (C ++ D) c p
  | [], D, c, p, _, k => k
  | q :: C, D, c, p, h, k => by
    refine ⟨h.1, h.2.1, h.2.2.1, mk_cz_app C D (c + 1) _ h.2.2.2 ?_⟩
    have e : (mk_fl (q :: C)).length = q.1.length + q.2.length + (mk_fl C).length := by
      show (q.1 ++ q.2 ++ mk_fl C).length = _
      rw [List.length_append, List.length_append]
    rw [e, List.length_cons] at k
    rw [show c + 1 + C.length = c + (C.length + 1) by omega, show p + q.1.length + q.2.length + (mk_fl C).length = p + (q.1.length + q.2.length + (mk_fl C).length) by omega]
    exact k
def mk_lmc (r : Nat) (C M : mj_M) : Prop := ∀ c k, ¬ (c = 48 ∧ (3 ≤ k ∧ k ≤ 5 ∨ k = 14) ∨ (c = 50 ∨ c = 51) ∧ 520 * r ≤ k ∨ (c = 52 ∨ c = 53) ∧ k = r ∨ (c = 54 ∨ c = 55 ∨ c = 56) ∧ 140 * r ≤ k) → M c k = C c k
def mk_lc (τ : Nat → Nat) (z : Nat) (C : mj_M) (r : Nat) (D : List mk_C) (p : Nat) (L : List mk_T) (M : mj_M) : Prop :=
  mk_lm τ z M r 0 p L M ∧ M 53 r = nI D.length ∧ 3 * D.length ≤ p ∧ mk_cz M D (140 * r) 0 ∧ mk_lmc r C M
def mk_lcf (C : mj_M) (r w : Nat) (M : mj_M) : Prop := r ≤ 4 ∧ M 48 14 = nI r ∧ M 48 4 = nI w ∧ w ≤ 240 ∧ mk_lmc r C M
section Clause
variable {N : Nat} {τ : Nat → Nat} {z : Nat} {B C M : mj_M} {r d p w s : Nat} {l : List Nat} {L : List mk_T} {D : List mk_C}
theorem mk_lm.rb (h : mk_lm τ z C r d p L M) : mk_lm τ z M r d p L M := by
  obtain ⟨h1, h2, h3, h4, h5, h6, h7, h8, h9, h10, h11, h12⟩ := h
  exact ⟨h1, h2, h3, h4, h5, h6, h7, h8, h9, h10, h11, fun _ _ _ => rfl⟩
theorem mk_lmc.b {M' : mj_M} (h : mk_lmc r C M) (k : mk_lmb r M M') : mk_lmc r C M' := by
  intro c j hc
  rw [k c j (by omega)]
  exact h c j hc
theorem mk_lmc.u (h : mk_lmc r C M) {c k : Nat} {v : Int32} (hc : c = 48 ∧ (3 ≤ k ∧ k ≤ 5 ∨ k = 14) ∨ (c = 50 ∨ c = 51) ∧ 520 * r ≤ k ∨ (c = 52 ∨ c = 53) ∧ k = r ∨ (c = 54 ∨ c = 55 ∨ c = 56) ∧ 140 * r ≤ k) : mk_lmc r C (mj_u M c k v) := by
  intro c' k' h'
  by_cases e : c' = c
  · subst e
    rw [mj_u_eq, mj_up_ne _ _ _ (fun e => h' (by rw [e]; exact hc))]
    exact h _ _ h'
  · rw [nw_u9 _ e]; exact h _ _ h'
theorem mk_lc.run (h : mk_lc τ z C r D p L M) {p' : Nat} {L' : List mk_T} {M' : mj_M} (k : mk_lm τ z M r 0 p' L' M') (hp : p ≤ p') : mk_lc τ z C r D p' L' M' ∧ ∀ c j, 53 ≤ c → c ≤ 56 → M' c j = M c j := by
  obtain ⟨h1, h2, h3, h4, h5⟩ := h
  have kb := k.2.2.2.2.2.2.2.2.2.2.2
  have kc : ∀ c j, 53 ≤ c → c ≤ 56 → M' c j = M c j := fun c j a b => kb c j (by omega)
  exact ⟨⟨k.rb, by rw [kc _ _ (by omega) (by omega)]; exact h2, by omega, mk_cz_cg D _ _ (fun j _ _ => ⟨kc _ _ (by omega) (by omega), kc _ _ (by omega) (by omega), kc _ _ (by omega) (by omega)⟩) h4, h5.b kb⟩, kc⟩
theorem mk_lc.runf (h : mk_lc τ z C r D p L M) {M' : mj_M} (k : mk_lmf M r w s M') : mk_lcf C r w M' :=
  ⟨k.1, k.2.1, k.2.2.1, k.2.2.2.1, h.2.2.2.2.b k.2.2.2.2.2⟩
theorem mk_lc.u (h : mk_lc τ z C r D p L M) {c : Nat} {v : Int32} (hc : c = 54 ∨ c = 55 ∨ c = 56) : mk_lc τ z C r D p L (mj_u M c (140 * r + D.length) v) := by
  obtain ⟨⟨g1, g2, g3, g4, g5, g6, g7, g8, g9, g10, g11, g12⟩, h2, h3, h4, h5⟩ := h
  have e : ∀ a, a ≠ c → mj_u M c (140 * r + D.length) v a = M a := fun a ha => nw_u9 _ ha
  refine ⟨⟨g1.u (by omega), g2, g3, by rw [e _ (by omega)]; exact g4, by rw [e _ (by omega)]; exact g5, by rw [e _ (by omega)]; exact g6, by rw [e _ (by omega)]; exact g7, g8, g9, by rw [e _ (by omega)]; exact g10, by rw [e _ (by omega), e _ (by omega)]; exact g11, fun _ _ _ => rfl⟩, by rw [e _ (by omega)]; exact h2, h3, mk_cz_cg D _ _ (fun j j1 j2 => ?_) h4, h5.u (by omega)⟩
  have q : ∀ a, mj_u M c (140 * r + D.length) v a j = M a j := fun a => by
    by_cases e1 : a = c
    · subst e1; rw [mj_u_eq, mj_up_ne _ _ _ (by omega)]
    · rw [e a e1]
  exact ⟨q _, q _, q _⟩
theorem mk_lcf.u (h : mk_lcf C r w M) {c k : Nat} {v : Int32} (hc : c = 48 ∧ (k = 3 ∨ k = 5) ∨ c = 53 ∧ k = r ∨ (c = 54 ∨ c = 55 ∨ c = 56) ∧ 140 * r ≤ k) : mk_lcf C r w (mj_u M c k v) := by
  obtain ⟨h1, h2, h3, h4, h5⟩ := h
  have e : ∀ k', k' = 14 ∨ k' = 4 → mj_u M c k v 48 k' = M 48 k' := fun k' hk => by
    by_cases e1 : 48 = c
    · subst e1; rw [mj_u_eq, mj_up_ne _ _ _ (by omega)]
    · rw [nw_u9 _ e1]
  exact ⟨h1, by rw [e _ (by omega)]; exact h2, by rw [e _ (by omega)]; exact h3, h4, h5.u (by omega)⟩
theorem mk_lcf.ok (h : mk_lcf C r w M) : ¬ M 48 4 = (-1 : Int32) := by
  rw [h.2.2.1]
  exact mk_nm1 (by have := h.2.2.2.1; omega)
theorem mk_lcf.end (h : mk_lcf C r w M) {k : Nat} (hk : 140 * r ≤ k) (hk2 : k < 700) : ∃ M', F_M_clause_b251 N (nI k) M = some M' ∧ mk_lcf C r w M' := by
  have h1 := h.1
  have h14 := h.2.1
  unfold F_M_clause_b251
  simp only [mj_lt]
  rw [h14, nw_ck (by omega) (by omega), nw_ck hk2 (by omega), nI_clamp (by omega), nw_u9 _ (by omega), h14, nw_ck (by omega) (by omega), nw_ck (by omega) (by omega), nI_clamp (by omega)]
  exact ⟨_, rfl, (h.u (by omega)).u (by omega)⟩
theorem mk_lcf.b184 (h : mk_lcf C r w M) {k : Nat} (hk : 140 * r ≤ k) (hk2 : k < 700) (x : Int32) : ∃ M', F_M_clause_b184 N (nI k) x M = some M' ∧ mk_lcf C r w M' := by
  unfold F_M_clause_b184
  simp only [mj_lt]
  rw [nw_ck hk2 (by omega), nw_ck hk2 (by omega), nI_clamp (by omega)]
  have h' := h.u (c := 55) (k := k) (v := M 54 k) (by omega)
  by_cases e : x = 0
  · rw [if_pos e]
    exact h'.end hk hk2
  · rw [if_neg e, if_neg h'.ok]
    exact h'.end hk hk2
/-- the clause ends: its sum's end, one clause more -/
theorem mk_lc.end (hz : mk_tp τ z) {q : mk_C} (h : mk_lc τ z C r D p (mk_fl D ++ (q.1 ++ q.2)) M) (h4 : M 54 (140 * r + D.length) = nI (mk_fl D).length) (h5 : M 55 (140 * r + D.length) = nI ((mk_fl D).length + q.1.length)) (hp : 3 * D.length + 3 ≤ p) : ∃ M', F_M_clause_b251 N (nI (140 * r + D.length)) M = some M' ∧ mk_lc τ z C r (D ++ [q]) p (mk_fl (D ++ [q])) M' := by
  have hz2 := hz.1
  have hpz := h.1.2.1
  have hr := h.1.2.2.1
  have h14 := h.1.2.2.2.1
  have h52 := h.1.2.2.2.2.2.2.2.2.2.1
  have h53 := h.2.1
  have efl : mk_fl (D ++ [q]) = mk_fl D ++ (q.1 ++ q.2) := by
    rw [mk_fl_app]
    show mk_fl D ++ (q.1 ++ q.2 ++ []) = _
    rw [List.append_nil]
  have h6 := h.u (c := 56) (v := nI (mk_fl D ++ (q.1 ++ q.2)).length) (by omega)
  unfold F_M_clause_b251
  simp only [mj_lt]
  rw [h14, nw_ck (by omega) (by omega), nw_ck (by omega) (by omega), nI_clamp (by omega), nI_clamp (by omega), h52, nw_u9 _ (by omega), h14, nw_ck (by omega) (by omega), nw_ck (by omega) (by omega), nI_clamp (by omega), nw_u9 _ (by omega), h53, nI_1]
  refine ⟨_, rfl, ?_⟩
  rw [efl]
  obtain ⟨⟨g1, g2, g3, g4, g5, g6, g7, g8, g9, g10, g11, g12⟩, k2, k3, k4, k5⟩ := h6
  have e : ∀ a, a ≠ 53 → mj_u (mj_u M 56 (140 * r + D.length) (nI (mk_fl D ++ (q.1 ++ q.2)).length)) 53 r (nI (D.length + 1)) a = mj_u M 56 (140 * r + D.length) (nI (mk_fl D ++ (q.1 ++ q.2)).length) a := fun a ha => nw_u9 _ ha
  refine ⟨⟨g1.u (by omega), g2, g3, by rw [e _ (by omega)]; exact g4, by rw [e _ (by omega)]; exact g5, by rw [e _ (by omega)]; exact g6, by rw [e _ (by omega)]; exact g7, g8, g9, by rw [e _ (by omega)]; exact g10, by rw [e _ (by omega), e _ (by omega)]; exact g11, fun _ _ _ => rfl⟩, ?_, ?_, ?_, k5.u (by omega)⟩
  · rw [mj_u_eq, mj_up_eq, List.length_append, List.length_singleton]
  · rw [List.length_append, List.length_singleton]; omega
  · refine mk_cz_app D [q] _ _ (mk_cz_cg D _ _ (fun j _ _ => by rw [e _ (by omega), e _ (by omega), e _ (by omega)]; exact ⟨rfl, rfl, rfl⟩) k4) ?_
    refine ⟨?_, ?_, ?_, trivial⟩
    · rw [e _ (by omega), nw_u9 _ (by omega), h4, Nat.zero_add]
    · rw [e _ (by omega), nw_u9 _ (by omega), h5, Nat.zero_add]
    · rw [e _ (by omega), mj_u_eq, mj_up_eq, List.length_append, List.length_append, Nat.zero_add, Nat.add_assoc]
theorem mk_lx.dm (h : mk_lx τ z B p l M) (hN : 1000 ≤ N) {v : Int32} {cc : Nat} (hv : v = nI cc) (hcc : 0 < cc) (hc : mk_ch τ z p = cc) : ∃ M', F_Tape_demand N v M = some M' ∧ mk_lx τ z B (mk_sq τ z p + 1) l M' := by
  obtain ⟨M1, x1, x2⟩ := h.pk hN
  have hc0 := mk_c0_0 h.1.1 (mk_sq τ z p)
  have hs := x2.2.1
  refine ⟨_, ?_, x2.nx (by unfold mk_ch at hc; omega)⟩
  rw [F_Tape_demand, x1, mk_bs, hc, if_pos hv.symm]
  rfl
theorem mk_lx.dmf (h : mk_lx τ z B p l M) (hN : 1000 ≤ N) {v : Int32} {cc : Nat} (hv : v = nI cc) (hcc : cc < 256) (hc : ¬ mk_ch τ z p = cc) : ∃ M', F_Tape_demand N v M = some M' ∧ mk_lxf B (mk_sq τ z p) M' := by
  obtain ⟨M1, x1, x2⟩ := h.pk hN
  have hz := h.z240
  have hp := x2.2.1
  have hl := mk_c0_lt h.1.1 (mk_sq τ z p)
  obtain ⟨M3, x5, x6⟩ := x2.fl (v := M1 2 2) x2.2.2.1 (by omega)
  refine ⟨M3, ?_, x6⟩
  rw [F_Tape_demand, x1, mk_bs, hv, if_neg (by rw [nw_eq (by unfold mk_ch; omega) (by omega)]; exact hc), x5, mk_bs]
theorem mk_lxf.dm (h : mk_lxf B w M) {v : Int32} {cc : Nat} (hv : v = nI cc) (hcc : 0 < cc ∧ cc < 256) : F_Tape_demand N v M = some M := by
  rw [F_Tape_demand, h.pk, mk_bs, hv, if_neg (show ¬ (0 : Int32) = nI cc by rw [nl_0, nw_eq (by omega) (by omega)]; omega), h.fl, mk_bs]
theorem mk_lxf.tl (hN : 1000 ≤ N) (h : mk_lxf B w M) : ∃ M', ((F_Tape_demand N (63 : Int32) M).bind (fun q13 => (F_LawReader_write (63 : Int32) (0 : Int32) q13).bind (fun q14 => (F_LawReader_readSum N 10 (0 : Int32) q14).bind (fun q15 => F_LawReader_readClause_b97 N q15)))) = some M' ∧ mk_lxf B w M' := by
  obtain ⟨M2, x3, x4⟩ := h.wr (63 : Int32) (0 : Int32)
  obtain ⟨M3, x5, x6⟩ := x4.wr (121 : Int32) (0 : Int32)
  refine ⟨M3, ?_, x6⟩
  rw [h.dm nl_63 (by omega), mk_bs, x3, mk_bs, mk_XFsum hN _ x4, mk_bs, F_LawReader_readClause_b97, x5, mk_bs]
/-- behind a condition: its sum -/
theorem mk_Atail (hN : 1000 ≤ N) (hz : mk_tp τ z) (hp : p ≤ z) :
    (∃ p' q, p + 2 ≤ p' ∧ p' ≤ z ∧ mk_ts [] q = some [false] ∧ (∀ B M l, l.length < p → mk_lx τ z B p l M → ∃ M', ((F_Tape_demand N (63 : Int32) M).bind (fun q13 => (F_LawReader_write (63 : Int32) (0 : Int32) q13).bind (fun q14 => (F_LawReader_readSum N 10 (0 : Int32) q14).bind (fun q15 => F_LawReader_readClause_b97 N q15)))) = some M' ∧ mk_lx τ z B p' (l ++ ([63] ++ (q.map mk_cd ++ [121]))) M') ∧ (∀ C M D q1, mk_lc τ z C r D p (mk_fl D ++ q1) M → 3 * D.length + 1 ≤ p → M 54 (140 * r + D.length) = nI (mk_fl D).length → ∃ M', F_M_clause_b184 N (nI (140 * r + D.length)) (1 : Int32) M = some M' ∧ mk_lc τ z C r (D ++ [(q1, q)]) p' (mk_fl (D ++ [(q1, q)])) M'))
    ∨ (∃ w, w ≤ z ∧ (∀ B M l, mk_lx τ z B p l M → ∃ M', ((F_Tape_demand N (63 : Int32) M).bind (fun q13 => (F_LawReader_write (63 : Int32) (0 : Int32) q13).bind (fun q14 => (F_LawReader_readSum N 10 (0 : Int32) q14).bind (fun q15 => F_LawReader_readClause_b97 N q15)))) = some M' ∧ mk_lxf B w M') ∧ (∀ C M D L, mk_lc τ z C r D p L M → ∃ M', F_M_clause_b184 N (nI (140 * r + D.length)) (1 : Int32) M = some M' ∧ mk_lcf C r w M')) := by
  have hz2 := hz.1
  have hs := mk_sq_in τ z p
  have hc := mk_c0_lt hz (mk_sq τ z p)
  have hc0 := mk_c0_0 hz (mk_sq τ z p)
  have hch : mk_ch τ z p = mk_c0 τ z (mk_sq τ z p) := rfl
  have e10 : ¬ (1 : Int32) = 0 := by decide +kernel
  have b184 : ∀ C M D L, mk_lc τ z C r D p L M → ∃ M1, F_M_look N M1 = F_M_look N M1 ∧ mk_lc τ z C r D p L M1 ∧ M1 54 = M 54 ∧ F_M_clause_b184 N (nI (140 * r + D.length)) (1 : Int32) M = ((F_M_look N M1).bind (fun q32 =>
     if q32.1 = (63 : Int32) then
     (mj_lt (mj_u q32.2 48 3 ((q32.2 48 3) + (1 : Int32))) (fun M34 =>
     mj_ck (M34 48 14) 5 (
     mj_ck (nI (140 * r + D.length)) 700 (mj_lt (mj_u M34 55 (nI (140 * r + D.length)).toNatClampNeg (M34 52 (M34 48 14).toNatClampNeg)) (fun M35 =>
     (F_M_sum N 10 M35).bind (fun q36 =>
     F_M_clause_b251 N (nI (140 * r + D.length)) q36))))))
     else
     ((F_M_bad q32.2).bind (fun q37 =>
     some q37)))) := by
    intro C M D L h
    have hr := h.1.2.2.1
    have hD := h.2.2.1
    have h' := h.u (c := 55) (v := M 54 (140 * r + D.length)) (by omega)
    refine ⟨_, rfl, h', nw_u9 _ (by omega), ?_⟩
    unfold F_M_clause_b184
    simp only [mj_lt]
    rw [nw_ck (by omega) (by omega), nw_ck (by omega) (by omega), nI_clamp (by omega), if_neg e10, if_pos h'.1.ok]
  by_cases c63 : mk_c0 τ z (mk_sq τ z p) = 63
  · have hlt : mk_sq τ z p < z := by omega
    have ref1 : ∀ C M D L, mk_lc τ z C r D p L M → ∃ M1, mk_lc τ z C r D (mk_sq τ z p + 1) L M1 ∧ M1 54 = M 54 ∧ M1 55 (140 * r + D.length) = nI L.length ∧ F_M_clause_b184 N (nI (140 * r + D.length)) (1 : Int32) M = (F_M_sum N 10 M1).bind (fun q36 => F_M_clause_b251 N (nI (140 * r + D.length)) q36) := by
      intro C M D L h
      have hr := h.1.2.2.1
      have hD := h.2.2.1
      obtain ⟨M1, _, x1, x2, x3⟩ := b184 C M D L h
      obtain ⟨M2, y1, y2⟩ := x1.1.pk hN
      obtain ⟨w1, w2⟩ := x1.run (y2.nx hlt) (by omega)
      have w14 := w1.1.2.2.2.1
      have w52 := w1.1.2.2.2.2.2.2.2.2.2.1
      refine ⟨_, w1.u (c := 55) (v := nI L.length) (by omega), ?_, by rw [mj_u_eq, mj_up_eq], ?_⟩
      · funext j
        rw [nw_u9 _ (by omega), w2 54 j (by omega) (by omega), x2]
      · rw [x3, y1, mk_bs, hch, c63, if_pos (show mk_mc 63 = (63 : Int32) by decide +kernel)]
        simp only [mj_lt]
        rw [w14, nw_ck (by omega) (by omega), nw_ck (by omega) (by omega), nI_clamp (by omega), nI_clamp (by omega), w52]
    rcases mk_Asum (r := r) hN hz 10 0 (by omega) (by omega) (mk_sq τ z p + 1) (by omega) with ⟨p1, q, a1, a2, a3, a4, a5, a6⟩ | ⟨w, a1, a2, a3, a4⟩
    · refine Or.inl ⟨p1, q, by omega, a2, a4 [] (by show 0 + _ ≤ _; omega), fun B M l hl h => ?_, fun C M D q1 h hD h54 => ?_⟩
      · obtain ⟨M1, x1, x2⟩ := h.dm hN nl_63 (by omega) c63
        obtain ⟨M2, x3, x4⟩ := x2.wr (v := 0) (s := 63) (by omega) (by omega) (by omega)
        have x3' : F_LawReader_write (63 : Int32) (0 : Int32) M1 = some M2 := x3
        obtain ⟨M3, x5, x6⟩ := a5 B M2 _ x4
        have x5' : F_LawReader_readSum N 10 (0 : Int32) M2 = some M3 := x5
        obtain ⟨M4, x7, x8⟩ := x6.wr (v := 0) (s := 121) (by rw [List.length_append, List.length_append, List.length_map, List.length_singleton]; omega) (by omega) (by omega)
        have x7' : F_LawReader_write (121 : Int32) (0 : Int32) M3 = some M4 := x7
        refine ⟨M4, ?_, ?_⟩
        · rw [x1, mk_bs, x3', mk_bs, x5', mk_bs, F_LawReader_readClause_b97, x7', mk_bs]
        · rw [← List.append_assoc, ← List.append_assoc]
          exact x8
      · obtain ⟨M1, y1, y2, y3, y4⟩ := ref1 C M D _ h
        obtain ⟨M2, y5, y6⟩ := a6 _ M1 _ y1.1
        obtain ⟨w1, w2⟩ := y1.run y6 (by omega)
        rw [y4, y5, mk_bs]
        refine mk_lc.end hz (q := (q1, q)) (by rw [← List.append_assoc]; exact w1) ?_ ?_ (by omega)
        · rw [w2 _ _ (by omega) (by omega), y2, h54]
        · rw [w2 _ _ (by omega) (by omega), y3, List.length_append]
    · refine Or.inr ⟨w, a1, fun B M l h => ?_, fun C M D L h => ?_⟩
      · obtain ⟨M1, x1, x2⟩ := h.dm hN nl_63 (by omega) c63
        have hl := h.2.2.2.2.1
        obtain ⟨M2, x3, x4⟩ := x2.wr (v := 0) (s := 63) (by omega) (by omega) (by omega)
        have x3' : F_LawReader_write (63 : Int32) (0 : Int32) M1 = some M2 := x3
        obtain ⟨M3, x5, x6⟩ := a3 B M2 _ x4
        have x5' : F_LawReader_readSum N 10 (0 : Int32) M2 = some M3 := x5
        obtain ⟨M4, x7, x8⟩ := x6.wr (121 : Int32) (0 : Int32)
        refine ⟨M4, ?_, x8⟩
        rw [x1, mk_bs, x3', mk_bs, x5', mk_bs, F_LawReader_readClause_b97, x7, mk_bs]
      · have hr := h.1.2.2.1
        have hD := h.2.2.1
        obtain ⟨M1, y1, y2, y3, y4⟩ := ref1 C M D _ h
        obtain ⟨M2, s, y5, y6, y7⟩ := a4 _ M1 _ y1.1
        rw [y4, y5, mk_bs]
        exact (y1.runf y6).end (by omega) (by omega)
  · refine Or.inr ⟨mk_sq τ z p, by omega, fun B M l h => ?_, fun C M D L h => ?_⟩
    · obtain ⟨M1, x1, x2⟩ := h.dmf hN nl_63 (by omega) c63
      obtain ⟨M2, x3, x4⟩ := x2.wr (63 : Int32) (0 : Int32)
      obtain ⟨M3, x5, x6⟩ := x4.wr (121 : Int32) (0 : Int32)
      refine ⟨M3, ?_, x6⟩
      rw [x1, mk_bs, x3, mk_bs, mk_XFsum hN _ x4, mk_bs, F_LawReader_readClause_b97, x5, mk_bs]
    · obtain ⟨M1, _, x1, x2, x3⟩ := b184 C M D L h
      obtain ⟨M2, y1, y2⟩ := x1.1.pk hN
      obtain ⟨M3, y3, y4⟩ := y2.bd
      refine ⟨M3, ?_, x1.runf y4⟩
      rw [x3, y1, mk_bs, hch, if_neg (by rw [nl_63, mk_mc_eq hc (by omega) (by omega)]; exact c63), y3, mk_bs]
end Clause
